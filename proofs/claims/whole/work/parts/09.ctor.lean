/-! THE CONSTRUCTORS: a machine in small whose heap is a list of cells, in the order of their making; written by wip/whole/gen9.py -/
abbrev CC : Type := (Nat × List AV) ⊕ List Int
abbrev Kf : Type := Nat × Nat × List AV × List AV × List CC
/-- the constructors by class, and the law (11), up to its 16 -/
def cmL : List (MethodName × ByteArray × Nat × Nat × Nat × Nat) := [
  (⟨"NodBench$Claims", "<init>", "()V"⟩, prog_2_method_1_code, 1, 0, 1, 12),
  (⟨"NodBench$Day", "<init>", "()V"⟩, prog_3_method_1_code, 1, 1, 3, 52),
  (⟨"NodBench$Guests", "<init>", "()V"⟩, prog_4_method_1_code, 1, 2, 1, 12),
  (⟨"NodBench$Habits", "<init>", "()V"⟩, prog_5_method_1_code, 1, 3, 1, 12),
  (⟨"NodBench$Orders", "<init>", "()V"⟩, prog_6_method_1_code, 1, 4, 1, 12),
  (⟨"NodBench$Room", "<init>", "()V"⟩, prog_7_method_1_code, 1, 5, 2, 32),
  (⟨"NodBench$Sheets", "<init>", "()V"⟩, prog_8_method_1_code, 1, 6, 1, 12),
  (⟨"NodBench$Shop", "<init>", "()V"⟩, prog_9_method_1_code, 1, 7, 1, 12),
  (⟨"NodBench$Tape", "<init>", "()V"⟩, prog_10_method_1_code, 1, 8, 1, 12),
  (⟨"NodBench", "<init>", "()V"⟩, prog_1_method_1_code, 1, 9, 4, 72),
  (⟨"NodBenchModel", "<init>", "()V"⟩, prog_12_method_2_code, 3, 10, 1, 12),
  (⟨"NodBenchLaw", "law", "([I)Z"⟩, code, 4, 13, 5, 92)]
def cm (m : Nat) : MethodName × ByteArray × Nat × Nat × Nat × Nat := cmL.getD m (⟨"", "", ""⟩, .empty, 0, 0, 0, 0)
def yC (m : Nat) : MethodName := (cm m).1
def bC (m : Nat) : ByteArray := (cm m).2.1
def nC (m : Nat) : Nat := (cm m).2.2.1
def oC (m : Nat) : Nat := (cm m).2.2.2.1
def fC (m : Nat) : Nat := (cm m).2.2.2.2.1
def lC (m : Nat) : Nat := (cm m).2.2.2.2.2
theorem cm_ok : ∀ m, m < 11 → plainName (yC m).cls = true ∧ (yC m).cls = cnm (oC m) ∧ (yC m).cls ≠ "java/lang/invoke/MethodHandle" ∧ (yC m).cls ≠ "java/lang/invoke/VarHandle" ∧ (parseMethodDescriptor (yC m).desc).map (fun d => d.parameters.length) = some 0 ∧ (yC m).name = "<init>" ∧ nC m ≥ 1 := by decide +kernel
set_option maxRecDepth 100000 in
theorem cc_0 : lw_tbl[172]? = some (.code (yC 0) (bC 0) (nC 0) none) := rfl
set_option maxRecDepth 100000 in
theorem cc_1 : lw_tbl[88]? = some (.code (yC 1) (bC 1) (nC 1) none) := rfl
set_option maxRecDepth 100000 in
theorem cc_2 : lw_tbl[140]? = some (.code (yC 2) (bC 2) (nC 2) none) := rfl
set_option maxRecDepth 100000 in
theorem cc_3 : lw_tbl[123]? = some (.code (yC 3) (bC 3) (nC 3) none) := rfl
set_option maxRecDepth 100000 in
theorem cc_4 : lw_tbl[305]? = some (.code (yC 4) (bC 4) (nC 4) none) := rfl
set_option maxRecDepth 100000 in
theorem cc_5 : lw_tbl[94]? = some (.code (yC 5) (bC 5) (nC 5) none) := rfl
set_option maxRecDepth 100000 in
theorem cc_6 : lw_tbl[287]? = some (.code (yC 6) (bC 6) (nC 6) none) := rfl
set_option maxRecDepth 100000 in
theorem cc_7 : lw_tbl[100]? = some (.code (yC 7) (bC 7) (nC 7) none) := rfl
set_option maxRecDepth 100000 in
theorem cc_8 : lw_tbl[270]? = some (.code (yC 8) (bC 8) (nC 8) none) := rfl
set_option maxRecDepth 100000 in
theorem cc_9 : lw_tbl[80]? = some (.code (yC 9) (bC 9) (nC 9) none) := rfl
set_option maxRecDepth 100000 in
theorem cc_10 : lw_tbl[817]? = some (.code (yC 10) (bC 10) (nC 10) none) := rfl
theorem cc_all : ∀ m, m < 11 → (Cond.code (yC m) (bC m) (nC m) none) ∈ lw_tbl := by
  intro m hm
  match m, hm with
  | 0, _ => exact List.mem_of_getElem? cc_0
  | 1, _ => exact List.mem_of_getElem? cc_1
  | 2, _ => exact List.mem_of_getElem? cc_2
  | 3, _ => exact List.mem_of_getElem? cc_3
  | 4, _ => exact List.mem_of_getElem? cc_4
  | 5, _ => exact List.mem_of_getElem? cc_5
  | 6, _ => exact List.mem_of_getElem? cc_6
  | 7, _ => exact List.mem_of_getElem? cc_7
  | 8, _ => exact List.mem_of_getElem? cc_8
  | 9, _ => exact List.mem_of_getElem? cc_9
  | 10, _ => exact List.mem_of_getElem? cc_10
  | k + 11, h => exact absurd h (by omega)
def ciI : List Nat := [171, 87, 139, 122, 304, 93, 286, 99, 269, 79, 816]
theorem ci_ok : ∀ m, m < 11 → lw_tbl[ciI.getD m 0]? = some (.instanceMethod (yC m)) := by decide +kernel
def ctI : List Nat := [68, 63, 67, 66, 71, 64, 70, 65, 69, 62, 72]
theorem ct_ini : ∀ m, m < 11 → lw_tbl[ctI.getD m 0]? = some (.initialized (yC m).cls) := by decide +kernel
def ncL : List (Nat × Nat × Nat × Nat × Nat × Nat) := [(1, 9, 5, 90, 91, 64), (5, 7, 7, 96, 97, 65), (5, 16, 3, 119, 120, 66), (5, 23, 2, 136, 137, 67), (5, 30, 0, 168, 169, 68), (9, 7, 1, 84, 85, 63), (9, 29, 5, 264, 91, 64), (9, 35, 8, 266, 267, 69), (9, 42, 6, 283, 284, 70), (9, 49, 4, 301, 302, 71), (13, 7, 9, 76, 77, 62), (13, 10, 10, 813, 814, 72)]
theorem nc_ok : ∀ e ∈ ncL, e.2.2.1 < 11 ∧ lw_tbl[e.2.2.2.1]? = some (.classLink (cnm e.1) e.2.1 (cnm e.2.2.1)) ∧ lw_tbl[e.2.2.2.2.1]? = some (.instantiable (cnm e.2.2.1) (fdN e.2.2.1)) ∧ lw_tbl[e.2.2.2.2.2]? = some (.initialized (cnm e.2.2.1)) := by decide +kernel
def fcL : List (Nat × Nat × Nat × Nat × Nat) := [(0, 9, 0, 0, 174), (0, 15, 0, 1, 175), (1, 12, 1, 0, 208), (1, 18, 1, 1, 210), (1, 22, 1, 2, 212), (1, 25, 1, 3, 214), (1, 28, 1, 4, 216), (1, 31, 1, 5, 218), (1, 34, 1, 6, 219), (1, 37, 1, 7, 220), (1, 40, 1, 8, 221), (1, 43, 1, 9, 222), (1, 46, 1, 15, 229), (2, 9, 2, 0, 142), (2, 15, 2, 1, 145), (2, 18, 2, 2, 148), (2, 21, 2, 3, 151), (3, 9, 3, 0, 125), (3, 15, 3, 1, 126), (4, 9, 4, 0, 307), (4, 15, 4, 1, 308), (4, 18, 4, 2, 309), (5, 10, 5, 0, 188), (5, 19, 5, 1, 191), (5, 26, 5, 2, 194), (5, 33, 5, 3, 197), (6, 11, 6, 0, 289), (6, 15, 6, 1, 291), (6, 18, 6, 2, 293), (7, 9, 7, 0, 102), (7, 15, 7, 1, 105), (7, 18, 7, 2, 108), (8, 9, 8, 0, 272), (9, 10, 9, 0, 317), (9, 16, 9, 1, 318), (9, 19, 1, 0, 209), (9, 23, 9, 2, 319), (9, 26, 9, 3, 320), (9, 32, 9, 4, 321), (9, 38, 9, 6, 323), (9, 45, 9, 7, 324), (9, 52, 9, 8, 325), (9, 56, 9, 9, 326), (10, 7, 10, 0, 819), (10, 13, 10, 1, 820), (10, 16, 10, 5, 824), (10, 19, 10, 11, 830), (10, 22, 10, 12, 831), (10, 25, 10, 13, 832), (10, 28, 10, 14, 833), (10, 31, 10, 15, 834), (10, 34, 10, 16, 835), (10, 37, 10, 17, 836), (10, 40, 10, 19, 838), (10, 43, 10, 20, 839), (10, 46, 10, 21, 840), (10, 49, 10, 23, 842), (10, 52, 10, 24, 843), (10, 55, 10, 25, 844), (10, 58, 10, 26, 845)]
theorem fc_ok : ∀ e ∈ fcL, (e.2.2.1 < 11 ∧ e.2.2.2.1 < fdN e.2.2.1) ∧ lw_tbl[e.2.2.2.2]? = some (flw e) ∧ goodWord (flw e) = true := by decide +kernel
def kcL : List (Nat × Nat × Nat × Nat × Nat) := [(1, 11, 5, 2, 92), (5, 9, 7, 2, 98), (5, 18, 3, 2, 121), (5, 25, 2, 2, 138), (5, 32, 0, 2, 170), (9, 9, 1, 2, 86), (9, 31, 5, 2, 265), (9, 37, 8, 2, 268), (9, 44, 6, 2, 285), (9, 51, 4, 2, 303), (13, 9, 9, 0, 78), (13, 12, 10, 0, 815)]
theorem kc_ok : ∀ e ∈ kcL, e.2.2.1 < 11 ∧ (e.2.2.2.1 ≠ 2 → lw_tbl[e.2.2.2.2]? = some (.methodLink (cnm e.1) e.2.1 (yC e.2.2.1))) := by decide +kernel
def kcN : List (Nat × Nat × Nat × String) := [(1, 11, 5, "NodBench"), (5, 9, 7, "NodBench"), (5, 18, 3, "NodBench"), (5, 25, 2, "NodBench"), (5, 32, 0, "NodBench"), (9, 9, 1, "NodBench"), (9, 31, 5, "NodBench"), (9, 37, 8, "NodBench"), (9, 44, 6, "NodBench"), (9, 51, 4, "NodBench")]
def kcw (e : Nat × Nat × Nat × String) : Cond := .methodLinkNest (cnm e.1) e.2.1 (yC e.2.2.1) e.2.2.2
theorem kc_nest : ∀ e ∈ kcL, e.2.2.2.1 = 2 → ∃ q ∈ kcN, q.1 = e.1 ∧ q.2.1 = e.2.1 ∧ q.2.2.1 = e.2.2.1 := by decide +kernel
def kcI : List Nat := [92, 98, 121, 138, 170, 86, 265, 268, 285, 303]
theorem kc_nw : kcN.map (fun e => some (kcw e)) = kcI.map (fun i => lw_tbl[i]?) := by decide +kernel
def ocL : List (Nat × Nat × Nat) := [(0, 3, 173), (1, 3, 89), (2, 3, 141), (3, 3, 124), (4, 3, 306), (5, 1, 95), (6, 3, 288), (7, 3, 101), (8, 3, 271), (9, 1, 81), (10, 1, 818)]
theorem oc_ok : ∀ e ∈ ocL, lw_tbl[e.2.2]? = some (.methodLink (cnm e.1) e.2.1 Lib.objectInit) := by decide +kernel
theorem oc_w : lw_tbl[82]? = some (.instanceMethod Lib.objectInit) := by decide +kernel
set_option maxRecDepth 100000 in
theorem oc_c : lw_tbl[83]? = some (.code Lib.objectInit ⟨#[0xb1]⟩ 1 none) := rfl
theorem ac_w : lw_tbl[118]? = some (.arrayClass .int) := by decide +kernel
def pc0 : List (Nat × Nat × Nat × Int) := [(2, 1, 0, 0), (62, 3, 0, 0), (99, 0, 0, 0), (99, 0, 0, 0), (2, 1, 0, 0), (0, 2, 1, 12), (99, 0, 0, 0), (61, 2, 0, 0), (99, 0, 0, 0), (41, 3, 0, 0), (99, 0, 0, 0), (99, 0, 0, 0), (2, 1, 0, 0), (0, 2, 1, 12), (99, 0, 0, 0), (61, 2, 0, 0), (99, 0, 0, 0), (41, 3, 1, 0), (99, 0, 0, 0), (99, 0, 0, 0), (47, 1, 0, 0)]
def pc1 : List (Nat × Nat × Nat × Int) := [(2, 1, 0, 0), (62, 3, 1, 0), (99, 0, 0, 0), (99, 0, 0, 0), (2, 1, 0, 0), (60, 3, 0, 0), (99, 0, 0, 0), (99, 0, 0, 0), (29, 1, 0, 0), (63, 3, 0, 0), (99, 0, 0, 0), (99, 0, 0, 0), (41, 3, 2, 0), (99, 0, 0, 0), (99, 0, 0, 0), (2, 1, 0, 0), (0, 2, 1, 12), (99, 0, 0, 0), (61, 2, 0, 0), (99, 0, 0, 0), (41, 3, 3, 0), (99, 0, 0, 0), (99, 0, 0, 0), (2, 1, 0, 0), (0, 2, 1, 12), (99, 0, 0, 0), (61, 2, 0, 0), (99, 0, 0, 0), (41, 3, 4, 0), (99, 0, 0, 0), (99, 0, 0, 0), (2, 1, 0, 0), (0, 2, 1, 12), (99, 0, 0, 0), (61, 2, 0, 0), (99, 0, 0, 0), (41, 3, 5, 0), (99, 0, 0, 0), (99, 0, 0, 0), (2, 1, 0, 0), (0, 2, 1, 12), (99, 0, 0, 0), (61, 2, 0, 0), (99, 0, 0, 0), (41, 3, 6, 0), (99, 0, 0, 0), (99, 0, 0, 0), (2, 1, 0, 0), (0, 2, 1, 12), (99, 0, 0, 0), (61, 2, 0, 0), (99, 0, 0, 0), (41, 3, 7, 0), (99, 0, 0, 0), (99, 0, 0, 0), (2, 1, 0, 0), (0, 2, 1, 12), (99, 0, 0, 0), (61, 2, 0, 0), (99, 0, 0, 0), (41, 3, 8, 0), (99, 0, 0, 0), (99, 0, 0, 0), (2, 1, 0, 0), (0, 2, 1, 12), (99, 0, 0, 0), (61, 2, 0, 0), (99, 0, 0, 0), (41, 3, 9, 0), (99, 0, 0, 0), (99, 0, 0, 0), (2, 1, 0, 0), (0, 2, 1, 12), (99, 0, 0, 0), (61, 2, 0, 0), (99, 0, 0, 0), (41, 3, 10, 0), (99, 0, 0, 0), (99, 0, 0, 0), (2, 1, 0, 0), (0, 1, 0, 3), (61, 2, 0, 0), (99, 0, 0, 0), (41, 3, 11, 0), (99, 0, 0, 0), (99, 0, 0, 0), (2, 1, 0, 0), (0, 1, 0, 1), (41, 3, 12, 0), (99, 0, 0, 0), (99, 0, 0, 0), (47, 1, 0, 0)]
def pc2 : List (Nat × Nat × Nat × Int) := [(2, 1, 0, 0), (62, 3, 2, 0), (99, 0, 0, 0), (99, 0, 0, 0), (2, 1, 0, 0), (0, 2, 1, 12), (99, 0, 0, 0), (61, 2, 0, 0), (99, 0, 0, 0), (41, 3, 13, 0), (99, 0, 0, 0), (99, 0, 0, 0), (2, 1, 0, 0), (0, 2, 1, 12), (99, 0, 0, 0), (61, 2, 0, 0), (99, 0, 0, 0), (41, 3, 14, 0), (99, 0, 0, 0), (99, 0, 0, 0), (2, 1, 0, 0), (0, 2, 1, 12), (99, 0, 0, 0), (61, 2, 0, 0), (99, 0, 0, 0), (41, 3, 15, 0), (99, 0, 0, 0), (99, 0, 0, 0), (2, 1, 0, 0), (0, 2, 1, 12), (99, 0, 0, 0), (61, 2, 0, 0), (99, 0, 0, 0), (41, 3, 16, 0), (99, 0, 0, 0), (99, 0, 0, 0), (47, 1, 0, 0)]
def pc3 : List (Nat × Nat × Nat × Int) := [(2, 1, 0, 0), (62, 3, 3, 0), (99, 0, 0, 0), (99, 0, 0, 0), (2, 1, 0, 0), (0, 2, 1, 6), (99, 0, 0, 0), (61, 2, 0, 0), (99, 0, 0, 0), (41, 3, 17, 0), (99, 0, 0, 0), (99, 0, 0, 0), (2, 1, 0, 0), (0, 2, 1, 6), (99, 0, 0, 0), (61, 2, 0, 0), (99, 0, 0, 0), (41, 3, 18, 0), (99, 0, 0, 0), (99, 0, 0, 0), (47, 1, 0, 0)]
def pc4 : List (Nat × Nat × Nat × Int) := [(2, 1, 0, 0), (62, 3, 4, 0), (99, 0, 0, 0), (99, 0, 0, 0), (2, 1, 0, 0), (0, 2, 1, 8), (99, 0, 0, 0), (61, 2, 0, 0), (99, 0, 0, 0), (41, 3, 19, 0), (99, 0, 0, 0), (99, 0, 0, 0), (2, 1, 0, 0), (0, 2, 1, 8), (99, 0, 0, 0), (61, 2, 0, 0), (99, 0, 0, 0), (41, 3, 20, 0), (99, 0, 0, 0), (99, 0, 0, 0), (2, 1, 0, 0), (0, 3, 2, 256), (99, 0, 0, 0), (99, 0, 0, 0), (61, 2, 0, 0), (99, 0, 0, 0), (41, 3, 21, 0), (99, 0, 0, 0), (99, 0, 0, 0), (47, 1, 0, 0)]
def pc5 : List (Nat × Nat × Nat × Int) := [(2, 1, 0, 0), (62, 3, 5, 0), (99, 0, 0, 0), (99, 0, 0, 0), (2, 1, 0, 0), (60, 3, 1, 0), (99, 0, 0, 0), (99, 0, 0, 0), (29, 1, 0, 0), (63, 3, 1, 0), (99, 0, 0, 0), (99, 0, 0, 0), (41, 3, 22, 0), (99, 0, 0, 0), (99, 0, 0, 0), (2, 1, 0, 0), (60, 3, 2, 0), (99, 0, 0, 0), (99, 0, 0, 0), (29, 1, 0, 0), (63, 3, 2, 0), (99, 0, 0, 0), (99, 0, 0, 0), (41, 3, 23, 0), (99, 0, 0, 0), (99, 0, 0, 0), (2, 1, 0, 0), (60, 3, 3, 0), (99, 0, 0, 0), (99, 0, 0, 0), (29, 1, 0, 0), (63, 3, 3, 0), (99, 0, 0, 0), (99, 0, 0, 0), (41, 3, 24, 0), (99, 0, 0, 0), (99, 0, 0, 0), (2, 1, 0, 0), (60, 3, 4, 0), (99, 0, 0, 0), (99, 0, 0, 0), (29, 1, 0, 0), (63, 3, 4, 0), (99, 0, 0, 0), (99, 0, 0, 0), (41, 3, 25, 0), (99, 0, 0, 0), (99, 0, 0, 0), (47, 1, 0, 0)]
def pc6 : List (Nat × Nat × Nat × Int) := [(2, 1, 0, 0), (62, 3, 6, 0), (99, 0, 0, 0), (99, 0, 0, 0), (2, 1, 0, 0), (0, 1, 0, 4), (61, 2, 0, 0), (99, 0, 0, 0), (29, 1, 0, 0), (0, 1, 0, 0), (0, 1, 0, -1), (38, 1, 0, 0), (29, 1, 0, 0), (0, 1, 0, 1), (0, 1, 0, -1), (38, 1, 0, 0), (29, 1, 0, 0), (0, 1, 0, 2), (0, 1, 0, -1), (38, 1, 0, 0), (29, 1, 0, 0), (0, 1, 0, 3), (0, 1, 0, -1), (38, 1, 0, 0), (41, 3, 26, 0), (99, 0, 0, 0), (99, 0, 0, 0), (2, 1, 0, 0), (0, 1, 0, 4), (61, 2, 0, 0), (99, 0, 0, 0), (41, 3, 27, 0), (99, 0, 0, 0), (99, 0, 0, 0), (2, 1, 0, 0), (0, 2, 1, 96), (99, 0, 0, 0), (61, 2, 0, 0), (99, 0, 0, 0), (41, 3, 28, 0), (99, 0, 0, 0), (99, 0, 0, 0), (47, 1, 0, 0)]
def pc7 : List (Nat × Nat × Nat × Int) := [(2, 1, 0, 0), (62, 3, 7, 0), (99, 0, 0, 0), (99, 0, 0, 0), (2, 1, 0, 0), (0, 2, 1, 8), (99, 0, 0, 0), (61, 2, 0, 0), (99, 0, 0, 0), (29, 1, 0, 0), (0, 1, 0, 0), (0, 2, 1, 7), (99, 0, 0, 0), (38, 1, 0, 0), (29, 1, 0, 0), (0, 1, 0, 1), (0, 2, 1, 10), (99, 0, 0, 0), (38, 1, 0, 0), (29, 1, 0, 0), (0, 1, 0, 2), (0, 2, 1, 60), (99, 0, 0, 0), (38, 1, 0, 0), (29, 1, 0, 0), (0, 1, 0, 3), (0, 1, 0, 0), (38, 1, 0, 0), (29, 1, 0, 0), (0, 1, 0, 4), (0, 1, 0, 5), (38, 1, 0, 0), (29, 1, 0, 0), (0, 1, 0, 5), (0, 2, 1, 13), (99, 0, 0, 0), (38, 1, 0, 0), (29, 1, 0, 0), (0, 2, 1, 6), (99, 0, 0, 0), (0, 1, 0, 1), (38, 1, 0, 0), (29, 1, 0, 0), (0, 2, 1, 7), (99, 0, 0, 0), (0, 1, 0, 1), (38, 1, 0, 0), (41, 3, 29, 0), (99, 0, 0, 0), (99, 0, 0, 0), (2, 1, 0, 0), (0, 2, 1, 12), (99, 0, 0, 0), (61, 2, 0, 0), (99, 0, 0, 0), (29, 1, 0, 0), (0, 1, 0, 0), (0, 2, 1, 10), (99, 0, 0, 0), (38, 1, 0, 0), (29, 1, 0, 0), (0, 1, 0, 1), (0, 2, 1, 15), (99, 0, 0, 0), (38, 1, 0, 0), (29, 1, 0, 0), (0, 1, 0, 2), (0, 2, 1, 20), (99, 0, 0, 0), (38, 1, 0, 0), (29, 1, 0, 0), (0, 1, 0, 3), (0, 2, 1, 30), (99, 0, 0, 0), (38, 1, 0, 0), (29, 1, 0, 0), (0, 1, 0, 4), (0, 2, 1, 12), (99, 0, 0, 0), (38, 1, 0, 0), (29, 1, 0, 0), (0, 1, 0, 5), (0, 2, 1, 18), (99, 0, 0, 0), (38, 1, 0, 0), (29, 1, 0, 0), (0, 2, 1, 6), (99, 0, 0, 0), (0, 2, 1, 24), (99, 0, 0, 0), (38, 1, 0, 0), (29, 1, 0, 0), (0, 2, 1, 7), (99, 0, 0, 0), (0, 2, 1, 36), (99, 0, 0, 0), (38, 1, 0, 0), (29, 1, 0, 0), (0, 2, 1, 8), (99, 0, 0, 0), (0, 2, 1, 20), (99, 0, 0, 0), (38, 1, 0, 0), (29, 1, 0, 0), (0, 2, 1, 9), (99, 0, 0, 0), (0, 2, 1, 30), (99, 0, 0, 0), (38, 1, 0, 0), (29, 1, 0, 0), (0, 2, 1, 10), (99, 0, 0, 0), (0, 2, 1, 40), (99, 0, 0, 0), (38, 1, 0, 0), (29, 1, 0, 0), (0, 2, 1, 11), (99, 0, 0, 0), (0, 2, 1, 60), (99, 0, 0, 0), (38, 1, 0, 0), (41, 3, 30, 0), (99, 0, 0, 0), (99, 0, 0, 0), (2, 1, 0, 0), (0, 1, 0, 4), (61, 2, 0, 0), (99, 0, 0, 0), (29, 1, 0, 0), (0, 1, 0, 0), (0, 2, 1, 10), (99, 0, 0, 0), (38, 1, 0, 0), (29, 1, 0, 0), (0, 1, 0, 1), (0, 2, 1, 15), (99, 0, 0, 0), (38, 1, 0, 0), (29, 1, 0, 0), (0, 1, 0, 2), (0, 2, 1, 20), (99, 0, 0, 0), (38, 1, 0, 0), (29, 1, 0, 0), (0, 1, 0, 3), (0, 2, 1, 30), (99, 0, 0, 0), (38, 1, 0, 0), (41, 3, 31, 0), (99, 0, 0, 0), (99, 0, 0, 0), (47, 1, 0, 0)]
def pc8 : List (Nat × Nat × Nat × Int) := [(2, 1, 0, 0), (62, 3, 8, 0), (99, 0, 0, 0), (99, 0, 0, 0), (2, 1, 0, 0), (0, 2, 1, 80), (99, 0, 0, 0), (61, 2, 0, 0), (99, 0, 0, 0), (41, 3, 32, 0), (99, 0, 0, 0), (99, 0, 0, 0), (47, 1, 0, 0)]
def pc9 : List (Nat × Nat × Nat × Int) := [(2, 1, 0, 0), (62, 3, 9, 0), (99, 0, 0, 0), (99, 0, 0, 0), (2, 1, 0, 0), (60, 3, 5, 0), (99, 0, 0, 0), (99, 0, 0, 0), (29, 1, 0, 0), (63, 3, 5, 0), (99, 0, 0, 0), (99, 0, 0, 0), (41, 3, 33, 0), (99, 0, 0, 0), (99, 0, 0, 0), (2, 1, 0, 0), (60, 3, 5, 0), (99, 0, 0, 0), (99, 0, 0, 0), (29, 1, 0, 0), (63, 3, 5, 0), (99, 0, 0, 0), (99, 0, 0, 0), (41, 3, 34, 0), (99, 0, 0, 0), (99, 0, 0, 0), (2, 1, 0, 0), (2, 1, 0, 0), (40, 3, 33, 0), (99, 0, 0, 0), (99, 0, 0, 0), (40, 3, 35, 0), (99, 0, 0, 0), (99, 0, 0, 0), (41, 3, 36, 0), (99, 0, 0, 0), (99, 0, 0, 0), (2, 1, 0, 0), (2, 1, 0, 0), (40, 3, 34, 0), (99, 0, 0, 0), (99, 0, 0, 0), (40, 3, 35, 0), (99, 0, 0, 0), (99, 0, 0, 0), (41, 3, 37, 0), (99, 0, 0, 0), (99, 0, 0, 0), (2, 1, 0, 0), (60, 3, 6, 0), (99, 0, 0, 0), (99, 0, 0, 0), (29, 1, 0, 0), (63, 3, 6, 0), (99, 0, 0, 0), (99, 0, 0, 0), (41, 3, 38, 0), (99, 0, 0, 0), (99, 0, 0, 0), (2, 1, 0, 0), (60, 3, 7, 0), (99, 0, 0, 0), (99, 0, 0, 0), (29, 1, 0, 0), (63, 3, 7, 0), (99, 0, 0, 0), (99, 0, 0, 0), (41, 3, 39, 0), (99, 0, 0, 0), (99, 0, 0, 0), (2, 1, 0, 0), (60, 3, 8, 0), (99, 0, 0, 0), (99, 0, 0, 0), (29, 1, 0, 0), (63, 3, 8, 0), (99, 0, 0, 0), (99, 0, 0, 0), (41, 3, 40, 0), (99, 0, 0, 0), (99, 0, 0, 0), (2, 1, 0, 0), (60, 3, 9, 0), (99, 0, 0, 0), (99, 0, 0, 0), (29, 1, 0, 0), (63, 3, 9, 0), (99, 0, 0, 0), (99, 0, 0, 0), (41, 3, 41, 0), (99, 0, 0, 0), (99, 0, 0, 0), (2, 1, 0, 0), (0, 2, 1, 9), (99, 0, 0, 0), (61, 2, 0, 0), (99, 0, 0, 0), (41, 3, 42, 0), (99, 0, 0, 0), (99, 0, 0, 0), (47, 1, 0, 0)]
def pc10 : List (Nat × Nat × Nat × Int) := [(2, 1, 0, 0), (62, 3, 10, 0), (99, 0, 0, 0), (99, 0, 0, 0), (2, 1, 0, 0), (0, 2, 1, 115), (99, 0, 0, 0), (61, 2, 0, 0), (99, 0, 0, 0), (41, 3, 43, 0), (99, 0, 0, 0), (99, 0, 0, 0), (2, 1, 0, 0), (0, 2, 1, 80), (99, 0, 0, 0), (61, 2, 0, 0), (99, 0, 0, 0), (41, 3, 44, 0), (99, 0, 0, 0), (99, 0, 0, 0), (2, 1, 0, 0), (0, 2, 1, 32), (99, 0, 0, 0), (61, 2, 0, 0), (99, 0, 0, 0), (41, 3, 45, 0), (99, 0, 0, 0), (99, 0, 0, 0), (2, 1, 0, 0), (0, 2, 1, 12), (99, 0, 0, 0), (61, 2, 0, 0), (99, 0, 0, 0), (41, 3, 46, 0), (99, 0, 0, 0), (99, 0, 0, 0), (2, 1, 0, 0), (0, 2, 1, 12), (99, 0, 0, 0), (61, 2, 0, 0), (99, 0, 0, 0), (41, 3, 47, 0), (99, 0, 0, 0), (99, 0, 0, 0), (2, 1, 0, 0), (0, 2, 1, 12), (99, 0, 0, 0), (61, 2, 0, 0), (99, 0, 0, 0), (41, 3, 48, 0), (99, 0, 0, 0), (99, 0, 0, 0), (2, 1, 0, 0), (0, 2, 1, 12), (99, 0, 0, 0), (61, 2, 0, 0), (99, 0, 0, 0), (41, 3, 49, 0), (99, 0, 0, 0), (99, 0, 0, 0), (2, 1, 0, 0), (0, 2, 1, 12), (99, 0, 0, 0), (61, 2, 0, 0), (99, 0, 0, 0), (41, 3, 50, 0), (99, 0, 0, 0), (99, 0, 0, 0), (2, 1, 0, 0), (0, 2, 1, 12), (99, 0, 0, 0), (61, 2, 0, 0), (99, 0, 0, 0), (41, 3, 51, 0), (99, 0, 0, 0), (99, 0, 0, 0), (2, 1, 0, 0), (0, 1, 0, 3), (61, 2, 0, 0), (99, 0, 0, 0), (41, 3, 52, 0), (99, 0, 0, 0), (99, 0, 0, 0), (2, 1, 0, 0), (0, 2, 1, 9), (99, 0, 0, 0), (61, 2, 0, 0), (99, 0, 0, 0), (41, 3, 53, 0), (99, 0, 0, 0), (99, 0, 0, 0), (2, 1, 0, 0), (0, 3, 2, 256), (99, 0, 0, 0), (99, 0, 0, 0), (61, 2, 0, 0), (99, 0, 0, 0), (41, 3, 54, 0), (99, 0, 0, 0), (99, 0, 0, 0), (2, 1, 0, 0), (0, 2, 1, 8), (99, 0, 0, 0), (61, 2, 0, 0), (99, 0, 0, 0), (41, 3, 55, 0), (99, 0, 0, 0), (99, 0, 0, 0), (2, 1, 0, 0), (0, 2, 1, 115), (99, 0, 0, 0), (61, 2, 0, 0), (99, 0, 0, 0), (41, 3, 56, 0), (99, 0, 0, 0), (99, 0, 0, 0), (2, 1, 0, 0), (0, 1, 0, 4), (61, 2, 0, 0), (99, 0, 0, 0), (41, 3, 57, 0), (99, 0, 0, 0), (99, 0, 0, 0), (2, 1, 0, 0), (0, 1, 0, 4), (61, 2, 0, 0), (99, 0, 0, 0), (41, 3, 58, 0), (99, 0, 0, 0), (99, 0, 0, 0), (2, 1, 0, 0), (0, 2, 1, 96), (99, 0, 0, 0), (61, 2, 0, 0), (99, 0, 0, 0), (41, 3, 59, 0), (99, 0, 0, 0), (99, 0, 0, 0), (0, 1, 0, 0), (4, 1, 1, 0), (1, 1, 1, 0), (0, 1, 0, 4), (33, 3, 158, 3), (99, 0, 0, 0), (99, 0, 0, 0), (2, 1, 0, 0), (40, 3, 57, 0), (99, 0, 0, 0), (99, 0, 0, 0), (1, 1, 1, 0), (0, 1, 0, -1), (38, 1, 0, 0), (6, 3, 1, 1), (99, 0, 0, 0), (99, 0, 0, 0), (34, 3, 140, 0), (99, 0, 0, 0), (99, 0, 0, 0), (2, 1, 0, 0), (40, 3, 43, 0), (99, 0, 0, 0), (99, 0, 0, 0), (0, 1, 0, 0), (0, 2, 1, 7), (99, 0, 0, 0), (38, 1, 0, 0), (2, 1, 0, 0), (40, 3, 43, 0), (99, 0, 0, 0), (99, 0, 0, 0), (0, 1, 0, 1), (0, 2, 1, 10), (99, 0, 0, 0), (38, 1, 0, 0), (2, 1, 0, 0), (40, 3, 43, 0), (99, 0, 0, 0), (99, 0, 0, 0), (0, 1, 0, 2), (0, 2, 1, 60), (99, 0, 0, 0), (38, 1, 0, 0), (2, 1, 0, 0), (40, 3, 43, 0), (99, 0, 0, 0), (99, 0, 0, 0), (0, 1, 0, 4), (0, 1, 0, 5), (38, 1, 0, 0), (2, 1, 0, 0), (40, 3, 43, 0), (99, 0, 0, 0), (99, 0, 0, 0), (0, 1, 0, 5), (0, 2, 1, 13), (99, 0, 0, 0), (38, 1, 0, 0), (2, 1, 0, 0), (40, 3, 43, 0), (99, 0, 0, 0), (99, 0, 0, 0), (0, 2, 1, 6), (99, 0, 0, 0), (0, 1, 0, 1), (38, 1, 0, 0), (2, 1, 0, 0), (40, 3, 43, 0), (99, 0, 0, 0), (99, 0, 0, 0), (0, 2, 1, 7), (99, 0, 0, 0), (0, 1, 0, 1), (38, 1, 0, 0), (0, 1, 0, 0), (4, 1, 1, 0), (1, 1, 1, 0), (0, 1, 0, 4), (33, 3, 305, 3), (99, 0, 0, 0), (99, 0, 0, 0), (1, 1, 1, 0), (32, 3, 229, 1), (99, 0, 0, 0), (99, 0, 0, 0), (0, 2, 1, 10), (99, 0, 0, 0), (34, 3, 251, 0), (99, 0, 0, 0), (99, 0, 0, 0), (1, 1, 1, 0), (0, 1, 0, 1), (33, 3, 239, 1), (99, 0, 0, 0), (99, 0, 0, 0), (0, 2, 1, 15), (99, 0, 0, 0), (34, 3, 251, 0), (99, 0, 0, 0), (99, 0, 0, 0), (1, 1, 1, 0), (0, 1, 0, 2), (33, 3, 249, 1), (99, 0, 0, 0), (99, 0, 0, 0), (0, 2, 1, 20), (99, 0, 0, 0), (34, 3, 251, 0), (99, 0, 0, 0), (99, 0, 0, 0), (0, 2, 1, 30), (99, 0, 0, 0), (4, 1, 2, 0), (2, 1, 0, 0), (40, 3, 43, 0), (99, 0, 0, 0), (99, 0, 0, 0), (0, 2, 1, 8), (99, 0, 0, 0), (1, 1, 1, 0), (7, 1, 0, 0), (1, 1, 2, 0), (38, 1, 0, 0), (2, 1, 0, 0), (40, 3, 43, 0), (99, 0, 0, 0), (99, 0, 0, 0), (0, 2, 1, 12), (99, 0, 0, 0), (1, 1, 1, 0), (7, 1, 0, 0), (1, 1, 2, 0), (0, 2, 1, 6), (99, 0, 0, 0), (9, 1, 0, 0), (0, 1, 0, 5), (10, 1, 0, 0), (38, 1, 0, 0), (2, 1, 0, 0), (40, 3, 43, 0), (99, 0, 0, 0), (99, 0, 0, 0), (0, 2, 1, 16), (99, 0, 0, 0), (1, 1, 1, 0), (7, 1, 0, 0), (1, 1, 2, 0), (0, 1, 0, 2), (9, 1, 0, 0), (38, 1, 0, 0), (2, 1, 0, 0), (40, 3, 43, 0), (99, 0, 0, 0), (99, 0, 0, 0), (0, 2, 1, 20), (99, 0, 0, 0), (1, 1, 1, 0), (7, 1, 0, 0), (1, 1, 2, 0), (38, 1, 0, 0), (6, 3, 1, 1), (99, 0, 0, 0), (99, 0, 0, 0), (34, 3, 215, 0), (99, 0, 0, 0), (99, 0, 0, 0), (47, 1, 0, 0)]
def pc11 : List (Nat × Nat × Nat × Int) := [(60, 3, 10, 0), (99, 0, 0, 0), (99, 0, 0, 0), (29, 1, 0, 0), (63, 3, 10, 0), (99, 0, 0, 0), (99, 0, 0, 0), (5, 1, 1, 0), (60, 3, 11, 0), (99, 0, 0, 0), (99, 0, 0, 0), (29, 1, 0, 0), (63, 3, 11, 0), (99, 0, 0, 0), (99, 0, 0, 0), (5, 1, 2, 0), (64, 1, 0, 0)]
def pcL : List (List (Nat × Nat × Nat × Int)) := [pc0, pc1, pc2, pc3, pc4, pc5, pc6, pc7, pc8, pc9, pc10, pc11]
def prC (m : Nat) : List (Nat × Nat × Nat × Int) := pcL.getD m []
/-- fields of a new object -/
def dfs (c : Nat) : List AV := (List.range (fdN c)).map (fun k => match fo c k with
  | some _ => aN
  | none => aI 0)
def tot (hs : List CC) : Nat := (hs.map (fun c => match c with
  | Sum.inl o => fdN o.1
  | Sum.inr l => l.length)).sum
def okA (n : Nat) : AV → Bool
  | Sum.inr (Sum.inl p) => decide (p < n)
  | _ => true
def okC (n : Nat) : CC → Bool
  | Sum.inl o => o.2.all (okA n)
  | Sum.inr _ => true
def okK (L st : List AV) (hs : List CC) : Bool := L.all (okA hs.length) && st.all (okA hs.length) && hs.all (okC hs.length)
abbrev Ac : Type := Option (Kf ⊕ ((Kf × (List CC → Kf)) ⊕ (Nat × List AV × List CC)))
abbrev kGo (c : Kf) : Ac := some (Sum.inl c)
abbrev kCall (c : Kf) (k : List CC → Kf) : Ac := some (Sum.inr (Sum.inl (c, k)))
abbrev kEnd (pc : Nat) (L : List AV) (hs : List CC) : Ac := some (Sum.inr (Sum.inr (pc, L, hs)))
def k_iload (len a m pc : Nat) (L st : List AV) (hs : List CC) : Ac := match L[a]? with
  | some (Sum.inl x) => kGo (m, pc + len, L, aI x :: st, hs)
  | _ => none
def k_aload (len a m pc : Nat) (L st : List AV) (hs : List CC) : Ac := match L[a]? with
  | some (Sum.inr (Sum.inl x)) => kGo (m, pc + len, L, aR x :: st, hs)
  | _ => none
def k_store (len a m pc : Nat) (L st : List AV) (hs : List CC) : Ac := match st with
  | Sum.inl x :: r => cond (noL L a && decide (a < L.length)) (kGo (m, pc + len, L.set a (aI x), r, hs)) none
  | _ => none
def k_astore (len a m pc : Nat) (L st : List AV) (hs : List CC) : Ac := match st with
  | Sum.inr (Sum.inl x) :: r => cond (noL L a && decide (a < L.length)) (kGo (m, pc + len, L.set a (aR x), r, hs)) none
  | _ => none
def k_iinc (len a : Nat) (v : Int) (m pc : Nat) (L st : List AV) (hs : List CC) : Ac := match L[a]? with
  | some (Sum.inl x) => cond (noL L a) (kGo (m, pc + len, L.set a (aI (x + v)), st, hs)) none
  | _ => none
def k_2 (f : Int → Int → Int) (m pc : Nat) (L st : List AV) (hs : List CC) : Ac := match st with
  | Sum.inl y :: Sum.inl x :: r => kGo (m, pc + 1, L, aI (f x y) :: r, hs)
  | _ => none
def k_div (m pc : Nat) (L st : List AV) (hs : List CC) : Ac := match st with
  | Sum.inl y :: Sum.inl x :: r => cond (decide (wr y ≠ 0)) (kGo (m, pc + 1, L, aI (jdiv x y) :: r, hs)) none
  | _ => none
def k_dup (m pc : Nat) (L st : List AV) (hs : List CC) : Ac := match st with
  | Sum.inr (Sum.inl p) :: r => kGo (m, pc + 1, L, aR p :: aR p :: r, hs)
  | _ => none
def k_if (a : Nat) (v : Int) (m pc : Nat) (L st : List AV) (hs : List CC) : Ac := match st with
  | Sum.inl x :: r => kGo (m, cond (cmpB v (wr x) 0) a (pc + 3), L, r, hs)
  | _ => none
def k_icmp (a : Nat) (v : Int) (m pc : Nat) (L st : List AV) (hs : List CC) : Ac := match st with
  | Sum.inl y :: Sum.inl x :: r => kGo (m, cond (cmpB v (wr x) (wr y)) a (pc + 3), L, r, hs)
  | _ => none
def k_ast (m pc : Nat) (L st : List AV) (hs : List CC) : Ac := match st with
  | Sum.inl x :: Sum.inl i :: Sum.inr (Sum.inl p) :: r => match hs[p]? with
    | some (Sum.inr l) => cond (inb l.length i) (kGo (m, pc + 1, L, r, hs.set p (Sum.inr (l.set (wr i).toNat x)))) none
    | _ => none
  | _ => none
def k_get (a m pc : Nat) (L st : List AV) (hs : List CC) : Ac := match st, fcL[a]? with
  | Sum.inr (Sum.inl p) :: r, some e => match hs[p]? with
    | some (Sum.inl o) => cond (o.1 == e.2.2.1) (match o.2[e.2.2.2.1]? with
      | some v => cond (nn v) (kGo (m, pc + 3, L, v :: r, hs)) none
      | none => none) none
    | _ => none
  | _, _ => none
def vOk (c k : Nat) : AV → Bool
  | Sum.inl x => (fo c k).isNone && (!(bo c k) || bz x)
  | Sum.inr (Sum.inl _) => (fo c k).isSome
  | _ => false
def k_put (a m pc : Nat) (L st : List AV) (hs : List CC) : Ac := match st, fcL[a]? with
  | v :: Sum.inr (Sum.inl p) :: r, some e => match hs[p]? with
    | some (Sum.inl o) => cond (o.1 == e.2.2.1 && vOk e.2.2.1 e.2.2.2.1 v && decide (e.2.2.2.1 < o.2.length)) (kGo (m, pc + 3, L, r, hs.set p (Sum.inl (o.1, o.2.set e.2.2.2.1 v)))) none
    | _ => none
  | _, _ => none
def k_new (a m pc : Nat) (L st : List AV) (hs : List CC) : Ac := match ncL[a]? with
  | some e => cond (okK L st hs) (kGo (m, pc + 3, L, aR hs.length :: st, hs ++ [Sum.inl (e.2.2.1, dfs e.2.2.1)])) none
  | none => none
def k_newa (m pc : Nat) (L st : List AV) (hs : List CC) : Ac := match st with
  | Sum.inl n :: r => cond (okK L r hs && decide (0 ≤ n ∧ n < 1000)) (kGo (m, pc + 2, L, aR hs.length :: r, hs ++ [Sum.inr (List.replicate n.toNat 0)])) none
  | _ => none
def k_oi (m pc : Nat) (L st : List AV) (hs : List CC) : Ac := match st with
  | [Sum.inr (Sum.inl _)] => kGo (m, pc + 3, L, [], hs)
  | _ => none
def k_ci (a m pc : Nat) (L st : List AV) (hs : List CC) : Ac := match st, kcL[a]? with
  | Sum.inr (Sum.inl p) :: r, some e => cond (okK L r hs && decide (catS r ≤ 8) && decide (p < hs.length)) (kCall (e.2.2.1, 0, aR p :: List.replicate (nC e.2.2.1 - 1) aN, [], hs) (fun h1 => (m, pc + 3, L, r, h1))) none
  | _, _ => none
def k_ret (pc : Nat) (L st : List AV) (hs : List CC) : Ac := match st with
  | [] => kEnd pc L hs
  | _ => none
def semC (op len a : Nat) (v : Int) (m pc : Nat) (L st : List AV) (hs : List CC) : Ac := match op with
  | 0 => kGo (m, pc + len, L, aI v :: st, hs)
  | 1 => k_iload len a m pc L st hs
  | 2 => k_aload len a m pc L st hs
  | 4 => k_store len a m pc L st hs
  | 5 => k_astore len a m pc L st hs
  | 6 => k_iinc len a v m pc L st hs
  | 7 => k_2 (fun x y => x + y) m pc L st hs
  | 9 => k_2 (fun x y => x * y) m pc L st hs
  | 10 => k_div m pc L st hs
  | 29 => k_dup m pc L st hs
  | 32 => k_if a v m pc L st hs
  | 33 => k_icmp a v m pc L st hs
  | 34 => kGo (m, a, L, st, hs)
  | 38 => k_ast m pc L st hs
  | 40 => k_get a m pc L st hs
  | 41 => k_put a m pc L st hs
  | 47 => k_ret pc L st hs
  | 60 => k_new a m pc L st hs
  | 61 => k_newa m pc L st hs
  | 62 => k_oi m pc L st hs
  | 63 => k_ci a m pc L st hs
  | 64 => k_ret pc L st hs
  | _ => none
def actC (c : Kf) : Ac := match (prC c.1)[c.2.1]? with
  | some e => semC e.1 e.2.1 e.2.2.1 e.2.2.2 c.1 c.2.1 c.2.2.1 c.2.2.2.1 c.2.2.2.2
  | none => none
def doesC (F : Kf → Option (Nat × List AV × List CC)) (a : Ac) : Option (Nat × List AV × List CC) := match a with
  | none => none
  | some (Sum.inl c) => F c
  | some (Sum.inr (Sum.inl (c, k))) => match F c with
    | some r => F (k r.2.2)
    | none => none
  | some (Sum.inr (Sum.inr r)) => some r
def rnC : Nat → Kf → Option (Nat × List AV × List CC)
  | 0, _ => none
  | n + 1, c => doesC (rnC n) (actC c)
/-- the law's start, up to its 16 -/
def start0 : Kf := (11, 0, [aN, aN, aN, aN], [], [])
def fin0 : Option (Nat × List AV × List CC) := rnC 3000 start0

