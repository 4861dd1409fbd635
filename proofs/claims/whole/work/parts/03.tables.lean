/-! TABLES, by program (wip/tools/gen_tables.py): classes, fields, kinds of cells, links, constants -/
def fm_TB : List Cond := lw_tbl.filter goodWord
theorem fm_tb {w : Cond} (h : w ∈ tables_1) (hg : goodWord w = true) : w ∈ fm_TB := List.mem_filter.mpr ⟨List.mem_append_right _ h, hg⟩
theorem fm_in (ws : List Cond) (ps : List Nat) (h : ws = ps.filterMap (fun i => tables_1[i]?)) (hg : ws.all goodWord = true) : ∀ w ∈ ws, w ∈ fm_TB := by
  intro w hw
  have h1 := List.all_eq_true.mp hg w hw
  rw [h] at hw
  obtain ⟨i, -, hi⟩ := List.mem_filterMap.mp hw
  exact fm_tb (List.mem_of_getElem? hi) h1
def fm_cn (oc : Nat) : String := ["FlatModule", "FlatModule$Checker", "FlatModule$FlatCode", "FlatModule$Frame", "FlatModule$Function", "FlatModule$Machine", "FlatModuleModel", "FlatModule$Arithmetic", "FlatModuleLaw", "java/lang/Math"].getD oc ""
def fm_T0 : u_T := fun k => match k with
  | 0 => ("FlatModule", "functions", "[LFlatModule$Function;", true)
  | 1 => ("FlatModule", "checker", "LFlatModule$Checker;", true)
  | 2 => ("FlatModule", "machine", "LFlatModule$Machine;", true)
  | _ => ("FlatModule", "checked", "Z", false)
def fm_y0 : Nat → FieldType := fun k => match k with
  | 0 => (.array (.object "FlatModule$Function"))
  | 1 => (.object "FlatModule$Checker")
  | 2 => (.object "FlatModule$Machine")
  | _ => .boolean
theorem fm_in0 : ∀ w ∈ u_ws "FlatModule" fm_T0 4, w ∈ fm_TB := fm_in _ [223, 225, 227, 229] (by decide +kernel) (by decide +kernel)
theorem fm_ty0 : ∀ k, k < 4 → parseFieldDescriptor (fm_T0 k).2.2.1 = some (fm_y0 k) := by decide +kernel
theorem fm_nm0 : ∀ a, a < 4 → ∀ b, b < 4 → a ≠ b → (fm_T0 a).2.1 ≠ (fm_T0 b).2.1 := by decide +kernel
def fm_T1 : u_T := fun k => match k with
  | 0 => ("FlatModule$Checker", "functions", "[LFlatModule$Function;", false)
  | 1 => ("FlatModule$Checker", "current", "I", false)
  | 2 => ("FlatModule$Checker", "fault", "I", false)
  | 3 => ("FlatModule$Checker", "types", "[I", true)
  | 4 => ("FlatModule$Checker", "height", "I", false)
  | 5 => ("FlatModule$Checker", "frames", "[LFlatModule$Frame;", true)
  | _ => ("FlatModule$Checker", "open", "I", false)
def fm_y1 : Nat → FieldType := fun k => match k with
  | 0 => (.array (.object "FlatModule$Function"))
  | 1 => .int
  | 2 => .int
  | 3 => (.array .int)
  | 4 => .int
  | 5 => (.array (.object "FlatModule$Frame"))
  | _ => .int
theorem fm_in1 : ∀ w ∈ u_ws "FlatModule$Checker" fm_T1 7, w ∈ fm_TB := fm_in _ [78, 80, 82, 84, 86, 88, 90] (by decide +kernel) (by decide +kernel)
theorem fm_ty1 : ∀ k, k < 7 → parseFieldDescriptor (fm_T1 k).2.2.1 = some (fm_y1 k) := by decide +kernel
theorem fm_nm1 : ∀ a, a < 7 → ∀ b, b < 7 → a ≠ b → (fm_T1 a).2.1 ≠ (fm_T1 b).2.1 := by decide +kernel
def fm_T2 : u_T := fun k => match k with
  | 0 => ("FlatModule$FlatCode", "length", "I", false)
  | 1 => ("FlatModule$FlatCode", "ops", "[I", true)
  | 2 => ("FlatModule$FlatCode", "numbers", "[I", true)
  | 3 => ("FlatModule$FlatCode", "registers", "[I", true)
  | 4 => ("FlatModule$FlatCode", "homes", "[I", true)
  | 5 => ("FlatModule$FlatCode", "targets", "[I", true)
  | _ => ("FlatModule$FlatCode", "awaited", "[I", true)
def fm_y2 : Nat → FieldType := fun k => match k with
  | 0 => .int
  | 1 => (.array .int)
  | 2 => (.array .int)
  | 3 => (.array .int)
  | 4 => (.array .int)
  | 5 => (.array .int)
  | _ => (.array .int)
theorem fm_in2 : ∀ w ∈ u_ws "FlatModule$FlatCode" fm_T2 7, w ∈ fm_TB := fm_in _ [160, 162, 164, 166, 168, 170, 172] (by decide +kernel) (by decide +kernel)
theorem fm_ty2 : ∀ k, k < 7 → parseFieldDescriptor (fm_T2 k).2.2.1 = some (fm_y2 k) := by decide +kernel
theorem fm_nm2 : ∀ a, a < 7 → ∀ b, b < 7 → a ≠ b → (fm_T2 a).2.1 ≠ (fm_T2 b).2.1 := by decide +kernel
def fm_T3 : u_T := fun k => match k with
  | 0 => ("FlatModule$Frame", "kind", "I", false)
  | 1 => ("FlatModule$Frame", "gives", "I", false)
  | 2 => ("FlatModule$Frame", "base", "I", false)
  | 3 => ("FlatModule$Frame", "start", "I", false)
  | 4 => ("FlatModule$Frame", "branch", "I", false)
  | 5 => ("FlatModule$Frame", "openedInLiveCode", "Z", false)
  | _ => ("FlatModule$Frame", "dead", "Z", false)
def fm_y3 : Nat → FieldType := fun k => match k with
  | 0 => .int
  | 1 => .int
  | 2 => .int
  | 3 => .int
  | 4 => .int
  | 5 => .boolean
  | _ => .boolean
theorem fm_in3 : ∀ w ∈ u_ws "FlatModule$Frame" fm_T3 7, w ∈ fm_TB := fm_in _ [55, 57, 59, 61, 63, 65, 67] (by decide +kernel) (by decide +kernel)
theorem fm_ty3 : ∀ k, k < 7 → parseFieldDescriptor (fm_T3 k).2.2.1 = some (fm_y3 k) := by decide +kernel
theorem fm_nm3 : ∀ a, a < 7 → ∀ b, b < 7 → a ≠ b → (fm_T3 a).2.1 ≠ (fm_T3 b).2.1 := by decide +kernel
def fm_T4 : u_T := fun k => match k with
  | 0 => ("FlatModule$Function", "there", "Z", false)
  | 1 => ("FlatModule$Function", "parameters", "I", false)
  | 2 => ("FlatModule$Function", "locals", "I", false)
  | 3 => ("FlatModule$Function", "result", "I", false)
  | 4 => ("FlatModule$Function", "length", "I", false)
  | 5 => ("FlatModule$Function", "types", "[I", true)
  | 6 => ("FlatModule$Function", "ops", "[I", true)
  | 7 => ("FlatModule$Function", "numbers", "[I", true)
  | _ => ("FlatModule$Function", "flat", "LFlatModule$FlatCode;", true)
def fm_y4 : Nat → FieldType := fun k => match k with
  | 0 => .boolean
  | 1 => .int
  | 2 => .int
  | 3 => .int
  | 4 => .int
  | 5 => (.array .int)
  | 6 => (.array .int)
  | 7 => (.array .int)
  | _ => (.object "FlatModule$FlatCode")
theorem fm_in4 : ∀ w ∈ u_ws "FlatModule$Function" fm_T4 9, w ∈ fm_TB := fm_in _ [200, 202, 204, 206, 208, 210, 212, 214, 216] (by decide +kernel) (by decide +kernel)
theorem fm_ty4 : ∀ k, k < 9 → parseFieldDescriptor (fm_T4 k).2.2.1 = some (fm_y4 k) := by decide +kernel
theorem fm_nm4 : ∀ a, a < 9 → ∀ b, b < 9 → a ≠ b → (fm_T4 a).2.1 ≠ (fm_T4 b).2.1 := by decide +kernel
def fm_T5 : u_T := fun k => match k with
  | 0 => ("FlatModule$Machine", "used", "I", false)
  | 1 => ("FlatModule$Machine", "deepest", "I", false)
  | 2 => ("FlatModule$Machine", "functions", "[LFlatModule$Function;", false)
  | 3 => ("FlatModule$Machine", "wholes", "[J", true)
  | 4 => ("FlatModule$Machine", "fractions", "[D", true)
  | 5 => ("FlatModule$Machine", "depth", "I", false)
  | 6 => ("FlatModule$Machine", "base", "I", false)
  | 7 => ("FlatModule$Machine", "called", "[I", true)
  | _ => ("FlatModule$Machine", "nextRows", "[I", true)
def fm_y5 : Nat → FieldType := fun k => match k with
  | 0 => .int
  | 1 => .int
  | 2 => (.array (.object "FlatModule$Function"))
  | 3 => (.array .long)
  | 4 => (.array .double)
  | 5 => .int
  | 6 => .int
  | 7 => (.array .int)
  | _ => (.array .int)
theorem fm_in5 : ∀ w ∈ u_ws "FlatModule$Machine" fm_T5 9, w ∈ fm_TB := fm_in _ [111, 113, 115, 117, 119, 121, 123, 125, 127] (by decide +kernel) (by decide +kernel)
theorem fm_ty5 : ∀ k, k < 9 → parseFieldDescriptor (fm_T5 k).2.2.1 = some (fm_y5 k) := by decide +kernel
theorem fm_nm5 : ∀ a, a < 9 → ∀ b, b < 9 → a ≠ b → (fm_T5 a).2.1 ≠ (fm_T5 b).2.1 := by decide +kernel
def fm_T6 : u_T := fun k => match k with
  | 0 => ("FlatModuleModel", "op", "[I", true)
  | 1 => ("FlatModuleModel", "number", "[I", true)
  | 2 => ("FlatModuleModel", "size", "[I", true)
  | 3 => ("FlatModuleModel", "parameters", "[I", true)
  | 4 => ("FlatModuleModel", "locals", "[I", true)
  | 5 => ("FlatModuleModel", "type", "[I", true)
  | 6 => ("FlatModuleModel", "result", "[I", true)
  | 7 => ("FlatModuleModel", "there", "[Z", true)
  | 8 => ("FlatModuleModel", "globalLong", "[J", true)
  | 9 => ("FlatModuleModel", "globalDouble", "[D", true)
  | 10 => ("FlatModuleModel", "stack", "[I", true)
  | 11 => ("FlatModuleModel", "base", "[I", true)
  | 12 => ("FlatModuleModel", "gives", "[I", true)
  | 13 => ("FlatModuleModel", "opened", "[I", true)
  | 14 => ("FlatModuleModel", "dead", "[Z", true)
  | 15 => ("FlatModuleModel", "height", "I", false)
  | 16 => ("FlatModuleModel", "frames", "I", false)
  | 17 => ("FlatModuleModel", "fault", "I", false)
  | 18 => ("FlatModuleModel", "thrown", "I", false)
  | 19 => ("FlatModuleModel", "checked", "Z", false)
  | 20 => ("FlatModuleModel", "whole", "[J", true)
  | 21 => ("FlatModuleModel", "fraction", "[D", true)
  | 22 => ("FlatModuleModel", "function", "[I", true)
  | 23 => ("FlatModuleModel", "place", "[I", true)
  | 24 => ("FlatModuleModel", "bottom", "[I", true)
  | 25 => ("FlatModuleModel", "openAt", "[I", true)
  | 26 => ("FlatModuleModel", "openHeight", "[I", true)
  | 27 => ("FlatModuleModel", "openBase", "[I", true)
  | 28 => ("FlatModuleModel", "top", "I", false)
  | 29 => ("FlatModuleModel", "calls", "I", false)
  | 30 => ("FlatModuleModel", "open", "I", false)
  | 31 => ("FlatModuleModel", "used", "I", false)
  | _ => ("FlatModuleModel", "deepest", "I", false)
def fm_y6 : Nat → FieldType := fun k => match k with
  | 0 => (.array .int)
  | 1 => (.array .int)
  | 2 => (.array .int)
  | 3 => (.array .int)
  | 4 => (.array .int)
  | 5 => (.array .int)
  | 6 => (.array .int)
  | 7 => (.array .boolean)
  | 8 => (.array .long)
  | 9 => (.array .double)
  | 10 => (.array .int)
  | 11 => (.array .int)
  | 12 => (.array .int)
  | 13 => (.array .int)
  | 14 => (.array .boolean)
  | 15 => .int
  | 16 => .int
  | 17 => .int
  | 18 => .int
  | 19 => .boolean
  | 20 => (.array .long)
  | 21 => (.array .double)
  | 22 => (.array .int)
  | 23 => (.array .int)
  | 24 => (.array .int)
  | 25 => (.array .int)
  | 26 => (.array .int)
  | 27 => (.array .int)
  | 28 => .int
  | 29 => .int
  | 30 => .int
  | 31 => .int
  | _ => .int
theorem fm_in6 : ∀ w ∈ u_ws "FlatModuleModel" fm_T6 33, w ∈ fm_TB := fm_in _ [655, 657, 659, 661, 663, 665, 667, 669, 671, 673, 675, 677, 679, 681, 683, 685, 687, 689, 691, 693, 695, 697, 699, 701, 703, 705, 707, 709, 711, 713, 715, 717, 719] (by decide +kernel) (by decide +kernel)
theorem fm_ty6 : ∀ k, k < 33 → parseFieldDescriptor (fm_T6 k).2.2.1 = some (fm_y6 k) := by decide +kernel
theorem fm_nm6 : ∀ a, a < 33 → ∀ b, b < 33 → a ≠ b → (fm_T6 a).2.1 ≠ (fm_T6 b).2.1 := by decide +kernel
abbrev fm_cls : List vw_C := [("FlatModule", fm_T0, 4), ("FlatModule$Checker", fm_T1, 7), ("FlatModule$FlatCode", fm_T2, 7), ("FlatModule$Frame", fm_T3, 7), ("FlatModule$Function", fm_T4, 9), ("FlatModule$Machine", fm_T5, 9), ("FlatModuleModel", fm_T6, 33)]
def fm_nf (ci : Nat) : Nat := [4, 7, 7, 7, 9, 9, 33].getD ci 0
/-- 0 int, 1 boolean, 2 reference -/
def fm_ft (ci s : Nat) : Nat := ([[2, 2, 2, 1], [2, 0, 0, 2, 0, 2, 0], [0, 2, 2, 2, 2, 2, 2], [0, 0, 0, 0, 0, 1, 1], [1, 0, 0, 0, 0, 2, 2, 2, 2], [0, 0, 2, 2, 2, 0, 0, 2, 2], [2, 2, 2, 2, 2, 2, 2, 2, 2, 2, 2, 2, 2, 2, 2, 0, 0, 0, 0, 1, 2, 2, 2, 2, 2, 2, 2, 2, 0, 0, 0, 0, 0]].getD ci []).getD s 0
def fm_fin (ci s : Nat) : Bool := ([[true, true, true, false], [false, false, false, true, false, true, false], [false, true, true, true, true, true, true], [false, false, false, false, false, false, false], [false, false, false, false, false, true, true, true, true], [false, false, false, true, true, false, false, true, true], [true, true, true, true, true, true, true, true, true, true, true, true, true, true, true, false, false, false, false, false, true, true, true, true, true, true, true, true, false, false, false, false, false]].getD ci []).getD s true
/-- the class of a kind of objects -/
def fm_kc (k : Nat) : Option Nat := cond (Nat.blt k 13) (cond (Nat.blt k 2) (cond (Nat.beq k 0) (some 0) (none)) (cond (Nat.blt k 6) (cond (Nat.beq k 2) (some 4) (none)) (cond (Nat.beq k 6) (some 2) (none)))) (cond (Nat.blt k 18) (cond (Nat.blt k 17) (cond (Nat.beq k 13) (some 1) (none)) (cond (Nat.beq k 17) (some 3) (none))) (cond (Nat.blt k 24) (cond (Nat.beq k 18) (some 5) (none)) (cond (Nat.beq k 24) (some 6) (none))))
/-- what a kind of arrays holds (0 int, 1 long, 2 double, 3 boolean, 4 Function, 5 Frame), and how long they are -/
def fm_ka (k : Nat) : Option (Nat × Nat) := cond (Nat.blt k 28) (cond (Nat.blt k 14) (cond (Nat.blt k 8) (cond (Nat.blt k 4) (cond (Nat.blt k 3) (cond (Nat.beq k 1) (some (4, 4)) (none)) (cond (Nat.beq k 3) (some (0, 6)) (none))) (cond (Nat.blt k 5) (cond (Nat.beq k 4) (some (0, 40)) (none)) (cond (Nat.blt k 7) (cond (Nat.beq k 5) (some (0, 40)) (none)) (cond (Nat.beq k 7) (some (0, 40)) (none))))) (cond (Nat.blt k 10) (cond (Nat.blt k 9) (cond (Nat.beq k 8) (some (0, 40)) (none)) (cond (Nat.beq k 9) (some (0, 40)) (none))) (cond (Nat.blt k 11) (cond (Nat.beq k 10) (some (0, 40)) (none)) (cond (Nat.blt k 12) (cond (Nat.beq k 11) (some (0, 40)) (none)) (cond (Nat.beq k 12) (some (0, 40)) (none)))))) (cond (Nat.blt k 21) (cond (Nat.blt k 16) (cond (Nat.blt k 15) (cond (Nat.beq k 14) (some (4, 0)) (none)) (cond (Nat.beq k 15) (some (0, 20)) (none))) (cond (Nat.blt k 19) (cond (Nat.beq k 16) (some (5, 9)) (none)) (cond (Nat.blt k 20) (cond (Nat.beq k 19) (some (4, 0)) (none)) (cond (Nat.beq k 20) (some (1, 212)) (none))))) (cond (Nat.blt k 25) (cond (Nat.blt k 22) (cond (Nat.beq k 21) (some (2, 212)) (none)) (cond (Nat.blt k 23) (cond (Nat.beq k 22) (some (0, 8)) (none)) (cond (Nat.beq k 23) (some (0, 8)) (none)))) (cond (Nat.blt k 26) (cond (Nat.beq k 25) (some (0, 160)) (none)) (cond (Nat.blt k 27) (cond (Nat.beq k 26) (some (0, 160)) (none)) (cond (Nat.beq k 27) (some (0, 4)) (none))))))) (cond (Nat.blt k 39) (cond (Nat.blt k 33) (cond (Nat.blt k 30) (cond (Nat.blt k 29) (cond (Nat.beq k 28) (some (0, 4)) (none)) (cond (Nat.beq k 29) (some (0, 4)) (none))) (cond (Nat.blt k 31) (cond (Nat.beq k 30) (some (0, 24)) (none)) (cond (Nat.blt k 32) (cond (Nat.beq k 31) (some (0, 4)) (none)) (cond (Nat.beq k 32) (some (3, 4)) (none))))) (cond (Nat.blt k 36) (cond (Nat.blt k 34) (cond (Nat.beq k 33) (some (1, 4)) (none)) (cond (Nat.blt k 35) (cond (Nat.beq k 34) (some (2, 4)) (none)) (cond (Nat.beq k 35) (some (0, 24)) (none)))) (cond (Nat.blt k 37) (cond (Nat.beq k 36) (some (0, 12)) (none)) (cond (Nat.blt k 38) (cond (Nat.beq k 37) (some (0, 12)) (none)) (cond (Nat.beq k 38) (some (0, 12)) (none)))))) (cond (Nat.blt k 44) (cond (Nat.blt k 41) (cond (Nat.blt k 40) (cond (Nat.beq k 39) (some (3, 12)) (none)) (cond (Nat.beq k 40) (some (1, 260)) (none))) (cond (Nat.blt k 42) (cond (Nat.beq k 41) (some (2, 260)) (none)) (cond (Nat.blt k 43) (cond (Nat.beq k 42) (some (0, 10)) (none)) (cond (Nat.beq k 43) (some (0, 10)) (none))))) (cond (Nat.blt k 47) (cond (Nat.blt k 45) (cond (Nat.beq k 44) (some (0, 10)) (none)) (cond (Nat.blt k 46) (cond (Nat.beq k 45) (some (0, 90)) (none)) (cond (Nat.beq k 46) (some (0, 90)) (none)))) (cond (Nat.blt k 48) (cond (Nat.beq k 47) (some (0, 10)) (none)) (cond (Nat.blt k 49) (cond (Nat.beq k 48) (some (1, 1)) (none)) (cond (Nat.beq k 49) (some (2, 1)) (none)))))))
def fm_cnt (k : Nat) : Nat := [1, 1, 4, 4, 4, 4, 4, 4, 4, 4, 4, 4, 4, 1, 1, 1, 1, 9, 1, 1, 1, 1, 1, 1, 1, 1, 1, 1, 1, 1, 1, 1, 1, 1, 1, 1, 1, 1, 1, 1, 1, 1, 1, 1, 1, 1, 1, 1, 1, 1, 1].getD k 0
def fm_ki : List (Nat × Nat) := [(0, 0), (1, 0), (2, 0), (2, 1), (2, 2), (2, 3), (3, 0), (3, 1), (3, 2), (3, 3), (4, 0), (4, 1), (4, 2), (4, 3), (5, 0), (5, 1), (5, 2), (5, 3), (6, 0), (6, 1), (6, 2), (6, 3), (7, 0), (7, 1), (7, 2), (7, 3), (8, 0), (8, 1), (8, 2), (8, 3), (9, 0), (9, 1), (9, 2), (9, 3), (10, 0), (10, 1), (10, 2), (10, 3), (11, 0), (11, 1), (11, 2), (11, 3), (12, 0), (12, 1), (12, 2), (12, 3), (13, 0), (14, 0), (15, 0), (16, 0), (17, 0), (17, 1), (17, 2), (17, 3), (17, 4), (17, 5), (17, 6), (17, 7), (17, 8), (18, 0), (19, 0), (20, 0), (21, 0), (22, 0), (23, 0), (24, 0), (25, 0), (26, 0), (27, 0), (28, 0), (29, 0), (30, 0), (31, 0), (32, 0), (33, 0), (34, 0), (35, 0), (36, 0), (37, 0), (38, 0), (39, 0), (40, 0), (41, 0), (42, 0), (43, 0), (44, 0), (45, 0), (46, 0), (47, 0), (48, 0), (49, 0)]
def fm_fl0 (k : Nat) : Option (Nat × Nat) := cond (Nat.blt k 49) (cond (Nat.blt k 25) (cond (Nat.blt k 18) (cond (Nat.beq k 11) (some (0, 0)) (none)) (cond (Nat.beq k 18) (some (0, 1)) (none))) (cond (Nat.blt k 41) (cond (Nat.beq k 25) (some (0, 2)) (none)) (cond (Nat.beq k 41) (some (0, 3)) (none)))) (cond (Nat.blt k 91) (cond (Nat.blt k 60) (cond (Nat.beq k 49) (some (4, 4)) (none)) (cond (Nat.beq k 60) (some (4, 0)) (none))) (cond (Nat.blt k 94) (cond (Nat.beq k 91) (some (5, 0)) (none)) (cond (Nat.beq k 94) (some (5, 1)) (none))))
def fm_fll0 : List (Nat × Nat × Nat) := [(11, 0, 0), (18, 0, 1), (25, 0, 2), (41, 0, 3), (49, 4, 4), (60, 4, 0), (91, 5, 0), (94, 5, 1)]
theorem fm_flw0 : ∀ w ∈ fm_fll0.map (fun q => Cond.fieldLink "FlatModule" q.1 (fm_cls.getD q.2.1 ("", fm_T0, 0)).1 ((fm_cls.getD q.2.1 ("", fm_T0, 0)).2.1 q.2.2).2.1 ((fm_cls.getD q.2.1 ("", fm_T0, 0)).2.1 q.2.2).2.2.1), w ∈ fm_TB := fm_in _ [219, 220, 221, 222, 189, 176, 101, 103] (by decide +kernel) (by decide +kernel)
def fm_fl1 (k : Nat) : Option (Nat × Nat) := cond (Nat.blt k 90) (cond (Nat.blt k 38) (cond (Nat.blt k 28) (cond (Nat.blt k 17) (cond (Nat.beq k 11) (some (1, 0)) (none)) (cond (Nat.blt k 23) (cond (Nat.beq k 17) (some (1, 3)) (none)) (cond (Nat.beq k 23) (some (1, 5)) (none)))) (cond (Nat.blt k 32) (cond (Nat.beq k 28) (some (1, 1)) (none)) (cond (Nat.blt k 35) (cond (Nat.beq k 32) (some (1, 2)) (none)) (cond (Nat.beq k 35) (some (1, 4)) (none))))) (cond (Nat.blt k 54) (cond (Nat.blt k 45) (cond (Nat.beq k 38) (some (1, 6)) (none)) (cond (Nat.blt k 49) (cond (Nat.beq k 45) (some (4, 8)) (none)) (cond (Nat.beq k 49) (some (2, 0)) (none)))) (cond (Nat.blt k 61) (cond (Nat.blt k 60) (cond (Nat.beq k 54) (some (4, 3)) (none)) (cond (Nat.beq k 60) (some (4, 4)) (none))) (cond (Nat.blt k 64) (cond (Nat.beq k 61) (some (4, 6)) (none)) (cond (Nat.beq k 64) (some (4, 7)) (none)))))) (cond (Nat.blt k 144) (cond (Nat.blt k 116) (cond (Nat.blt k 96) (cond (Nat.beq k 90) (some (4, 2)) (none)) (cond (Nat.blt k 104) (cond (Nat.beq k 96) (some (4, 0)) (none)) (cond (Nat.beq k 104) (some (4, 5)) (none)))) (cond (Nat.blt k 135) (cond (Nat.blt k 129) (cond (Nat.beq k 116) (some (3, 4)) (none)) (cond (Nat.beq k 129) (some (3, 0)) (none))) (cond (Nat.blt k 141) (cond (Nat.beq k 135) (some (2, 6)) (none)) (cond (Nat.beq k 141) (some (3, 6)) (none))))) (cond (Nat.blt k 169) (cond (Nat.blt k 150) (cond (Nat.beq k 144) (some (3, 1)) (none)) (cond (Nat.blt k 166) (cond (Nat.beq k 150) (some (3, 2)) (none)) (cond (Nat.beq k 166) (some (2, 4)) (none)))) (cond (Nat.blt k 175) (cond (Nat.blt k 172) (cond (Nat.beq k 169) (some (2, 5)) (none)) (cond (Nat.beq k 172) (some (3, 3)) (none))) (cond (Nat.blt k 178) (cond (Nat.beq k 175) (some (4, 1)) (none)) (cond (Nat.beq k 178) (some (3, 5)) (none))))))
def fm_fll1 : List (Nat × Nat × Nat) := [(11, 1, 0), (17, 1, 3), (23, 1, 5), (28, 1, 1), (32, 1, 2), (35, 1, 4), (38, 1, 6), (45, 4, 8), (49, 2, 0), (54, 4, 3), (60, 4, 4), (61, 4, 6), (64, 4, 7), (90, 4, 2), (96, 4, 0), (104, 4, 5), (116, 3, 4), (129, 3, 0), (135, 2, 6), (141, 3, 6), (144, 3, 1), (150, 3, 2), (166, 2, 4), (169, 2, 5), (172, 3, 3), (175, 4, 1), (178, 3, 5)]
theorem fm_flw1 : ∀ w ∈ fm_fll1.map (fun q => Cond.fieldLink "FlatModule$Checker" q.1 (fm_cls.getD q.2.1 ("", fm_T0, 0)).1 ((fm_cls.getD q.2.1 ("", fm_T0, 0)).2.1 q.2.2).2.1 ((fm_cls.getD q.2.1 ("", fm_T0, 0)).2.1 q.2.2).2.2.1), w ∈ fm_TB := fm_in _ [71, 74, 76, 72, 73, 75, 77, 198, 144, 185, 188, 194, 196, 183, 177, 192, 50, 42, 159, 54, 44, 46, 153, 156, 48, 180, 52] (by decide +kernel) (by decide +kernel)
def fm_fl2 (k : Nat) : Option (Nat × Nat) := cond (Nat.blt k 21) (cond (Nat.blt k 15) (cond (Nat.beq k 9) (some (2, 1)) (none)) (cond (Nat.blt k 18) (cond (Nat.beq k 15) (some (2, 2)) (none)) (cond (Nat.beq k 18) (some (2, 3)) (none)))) (cond (Nat.blt k 27) (cond (Nat.blt k 24) (cond (Nat.beq k 21) (some (2, 4)) (none)) (cond (Nat.beq k 24) (some (2, 5)) (none))) (cond (Nat.blt k 30) (cond (Nat.beq k 27) (some (2, 6)) (none)) (cond (Nat.beq k 30) (some (2, 0)) (none))))
def fm_fll2 : List (Nat × Nat × Nat) := [(9, 2, 1), (15, 2, 2), (18, 2, 3), (21, 2, 4), (24, 2, 5), (27, 2, 6), (30, 2, 0)]
theorem fm_flw2 : ∀ w ∈ fm_fll2.map (fun q => Cond.fieldLink "FlatModule$FlatCode" q.1 (fm_cls.getD q.2.1 ("", fm_T0, 0)).1 ((fm_cls.getD q.2.1 ("", fm_T0, 0)).2.1 q.2.2).2.1 ((fm_cls.getD q.2.1 ("", fm_T0, 0)).2.1 q.2.2).2.2.1), w ∈ fm_TB := fm_in _ [146, 148, 150, 152, 155, 158, 143] (by decide +kernel) (by decide +kernel)
def fm_fl3 (k : Nat) : Option (Nat × Nat) := cond (Nat.blt k 21) (cond (Nat.blt k 15) (cond (Nat.beq k 9) (some (3, 0)) (none)) (cond (Nat.blt k 18) (cond (Nat.beq k 15) (some (3, 1)) (none)) (cond (Nat.beq k 18) (some (3, 2)) (none)))) (cond (Nat.blt k 29) (cond (Nat.blt k 26) (cond (Nat.beq k 21) (some (3, 3)) (none)) (cond (Nat.beq k 26) (some (3, 4)) (none))) (cond (Nat.blt k 33) (cond (Nat.beq k 29) (some (3, 5)) (none)) (cond (Nat.beq k 33) (some (3, 6)) (none))))
def fm_fll3 : List (Nat × Nat × Nat) := [(9, 3, 0), (15, 3, 1), (18, 3, 2), (21, 3, 3), (26, 3, 4), (29, 3, 5), (33, 3, 6)]
theorem fm_flw3 : ∀ w ∈ fm_fll3.map (fun q => Cond.fieldLink "FlatModule$Frame" q.1 (fm_cls.getD q.2.1 ("", fm_T0, 0)).1 ((fm_cls.getD q.2.1 ("", fm_T0, 0)).2.1 q.2.2).2.1 ((fm_cls.getD q.2.1 ("", fm_T0, 0)).2.1 q.2.2).2.2.1), w ∈ fm_TB := fm_in _ [41, 43, 45, 47, 49, 51, 53] (by decide +kernel) (by decide +kernel)
def fm_fl4 (k : Nat) : Option (Nat × Nat) := cond (Nat.blt k 28) (cond (Nat.blt k 18) (cond (Nat.blt k 15) (cond (Nat.beq k 9) (some (4, 5)) (none)) (cond (Nat.beq k 15) (some (4, 6)) (none))) (cond (Nat.blt k 24) (cond (Nat.beq k 18) (some (4, 7)) (none)) (cond (Nat.beq k 24) (some (4, 8)) (none)))) (cond (Nat.blt k 36) (cond (Nat.blt k 32) (cond (Nat.beq k 28) (some (4, 0)) (none)) (cond (Nat.beq k 32) (some (4, 1)) (none))) (cond (Nat.blt k 39) (cond (Nat.beq k 36) (some (4, 2)) (none)) (cond (Nat.blt k 42) (cond (Nat.beq k 39) (some (4, 3)) (none)) (cond (Nat.beq k 42) (some (4, 4)) (none)))))
def fm_fll4 : List (Nat × Nat × Nat) := [(9, 4, 5), (15, 4, 6), (18, 4, 7), (24, 4, 8), (28, 4, 0), (32, 4, 1), (36, 4, 2), (39, 4, 3), (42, 4, 4)]
theorem fm_flw4 : ∀ w ∈ fm_fll4.map (fun q => Cond.fieldLink "FlatModule$Function" q.1 (fm_cls.getD q.2.1 ("", fm_T0, 0)).1 ((fm_cls.getD q.2.1 ("", fm_T0, 0)).2.1 q.2.2).2.1 ((fm_cls.getD q.2.1 ("", fm_T0, 0)).2.1 q.2.2).2.2.1), w ∈ fm_TB := fm_in _ [190, 193, 195, 197, 175, 178, 181, 184, 187] (by decide +kernel) (by decide +kernel)
def fm_fl5 (k : Nat) : Option (Nat × Nat) := cond (Nat.blt k 67) (cond (Nat.blt k 32) (cond (Nat.blt k 21) (cond (Nat.blt k 17) (cond (Nat.beq k 13) (some (5, 2)) (none)) (cond (Nat.beq k 17) (some (5, 3)) (none))) (cond (Nat.blt k 25) (cond (Nat.beq k 21) (some (5, 4)) (none)) (cond (Nat.blt k 29) (cond (Nat.beq k 25) (some (5, 7)) (none)) (cond (Nat.beq k 29) (some (5, 8)) (none))))) (cond (Nat.blt k 39) (cond (Nat.blt k 36) (cond (Nat.beq k 32) (some (5, 0)) (none)) (cond (Nat.beq k 36) (some (5, 1)) (none))) (cond (Nat.blt k 46) (cond (Nat.beq k 39) (some (5, 5)) (none)) (cond (Nat.blt k 49) (cond (Nat.beq k 46) (some (4, 1)) (none)) (cond (Nat.beq k 49) (some (4, 5)) (none)))))) (cond (Nat.blt k 99) (cond (Nat.blt k 77) (cond (Nat.blt k 70) (cond (Nat.beq k 67) (some (4, 3)) (none)) (cond (Nat.beq k 70) (some (4, 2)) (none))) (cond (Nat.blt k 86) (cond (Nat.beq k 77) (some (5, 6)) (none)) (cond (Nat.blt k 90) (cond (Nat.beq k 86) (some (4, 8)) (none)) (cond (Nat.beq k 90) (some (2, 0)) (none))))) (cond (Nat.blt k 109) (cond (Nat.blt k 106) (cond (Nat.beq k 99) (some (2, 3)) (none)) (cond (Nat.beq k 106) (some (2, 1)) (none))) (cond (Nat.blt k 145) (cond (Nat.beq k 109) (some (2, 2)) (none)) (cond (Nat.blt k 151) (cond (Nat.beq k 145) (some (2, 5)) (none)) (cond (Nat.beq k 151) (some (2, 4)) (none))))))
def fm_fll5 : List (Nat × Nat × Nat) := [(13, 5, 2), (17, 5, 3), (21, 5, 4), (25, 5, 7), (29, 5, 8), (32, 5, 0), (36, 5, 1), (39, 5, 5), (46, 4, 1), (49, 4, 5), (67, 4, 3), (70, 4, 2), (77, 5, 6), (86, 4, 8), (90, 2, 0), (99, 2, 3), (106, 2, 1), (109, 2, 2), (145, 2, 5), (151, 2, 4)]
theorem fm_flw5 : ∀ w ∈ fm_fll5.map (fun q => Cond.fieldLink "FlatModule$Machine" q.1 (fm_cls.getD q.2.1 ("", fm_T0, 0)).1 ((fm_cls.getD q.2.1 ("", fm_T0, 0)).2.1 q.2.2).2.1 ((fm_cls.getD q.2.1 ("", fm_T0, 0)).2.1 q.2.2).2.2.1), w ∈ fm_TB := fm_in _ [104, 105, 106, 109, 110, 100, 102, 107, 179, 191, 186, 182, 108, 199, 145, 151, 147, 149, 157, 154] (by decide +kernel) (by decide +kernel)
def fm_fl6 (k : Nat) : Option (Nat × Nat) := cond (Nat.blt k 61) (cond (Nat.blt k 35) (cond (Nat.blt k 22) (cond (Nat.blt k 16) (cond (Nat.blt k 13) (cond (Nat.beq k 7) (some (6, 0)) (none)) (cond (Nat.beq k 13) (some (6, 1)) (none))) (cond (Nat.blt k 19) (cond (Nat.beq k 16) (some (6, 2)) (none)) (cond (Nat.beq k 19) (some (6, 3)) (none)))) (cond (Nat.blt k 28) (cond (Nat.blt k 25) (cond (Nat.beq k 22) (some (6, 4)) (none)) (cond (Nat.beq k 25) (some (6, 5)) (none))) (cond (Nat.blt k 31) (cond (Nat.beq k 28) (some (6, 6)) (none)) (cond (Nat.beq k 31) (some (6, 7)) (none))))) (cond (Nat.blt k 49) (cond (Nat.blt k 43) (cond (Nat.blt k 39) (cond (Nat.beq k 35) (some (6, 8)) (none)) (cond (Nat.beq k 39) (some (6, 9)) (none))) (cond (Nat.blt k 46) (cond (Nat.beq k 43) (some (6, 10)) (none)) (cond (Nat.beq k 46) (some (6, 11)) (none)))) (cond (Nat.blt k 55) (cond (Nat.blt k 52) (cond (Nat.beq k 49) (some (6, 12)) (none)) (cond (Nat.beq k 52) (some (6, 13)) (none))) (cond (Nat.blt k 58) (cond (Nat.beq k 55) (some (6, 14)) (none)) (cond (Nat.beq k 58) (some (6, 20)) (none)))))) (cond (Nat.blt k 94) (cond (Nat.blt k 73) (cond (Nat.blt k 67) (cond (Nat.blt k 64) (cond (Nat.beq k 61) (some (6, 21)) (none)) (cond (Nat.beq k 64) (some (6, 22)) (none))) (cond (Nat.blt k 70) (cond (Nat.beq k 67) (some (6, 23)) (none)) (cond (Nat.beq k 70) (some (6, 24)) (none)))) (cond (Nat.blt k 79) (cond (Nat.blt k 76) (cond (Nat.beq k 73) (some (6, 25)) (none)) (cond (Nat.beq k 76) (some (6, 26)) (none))) (cond (Nat.blt k 82) (cond (Nat.beq k 79) (some (6, 27)) (none)) (cond (Nat.beq k 82) (some (6, 18)) (none))))) (cond (Nat.blt k 161) (cond (Nat.blt k 105) (cond (Nat.blt k 102) (cond (Nat.beq k 94) (some (6, 19)) (none)) (cond (Nat.beq k 102) (some (6, 17)) (none))) (cond (Nat.blt k 108) (cond (Nat.beq k 105) (some (6, 15)) (none)) (cond (Nat.beq k 108) (some (6, 16)) (none)))) (cond (Nat.blt k 187) (cond (Nat.blt k 184) (cond (Nat.beq k 161) (some (6, 28)) (none)) (cond (Nat.beq k 184) (some (6, 30)) (none))) (cond (Nat.blt k 198) (cond (Nat.beq k 187) (some (6, 29)) (none)) (cond (Nat.blt k 225) (cond (Nat.beq k 198) (some (6, 32)) (none)) (cond (Nat.beq k 225) (some (6, 31)) (none)))))))
def fm_fll6 : List (Nat × Nat × Nat) := [(7, 6, 0), (13, 6, 1), (16, 6, 2), (19, 6, 3), (22, 6, 4), (25, 6, 5), (28, 6, 6), (31, 6, 7), (35, 6, 8), (39, 6, 9), (43, 6, 10), (46, 6, 11), (49, 6, 12), (52, 6, 13), (55, 6, 14), (58, 6, 20), (61, 6, 21), (64, 6, 22), (67, 6, 23), (70, 6, 24), (73, 6, 25), (76, 6, 26), (79, 6, 27), (82, 6, 18), (94, 6, 19), (102, 6, 17), (105, 6, 15), (108, 6, 16), (161, 6, 28), (184, 6, 30), (187, 6, 29), (198, 6, 32), (225, 6, 31)]
theorem fm_flw6 : ∀ w ∈ fm_fll6.map (fun q => Cond.fieldLink "FlatModuleModel" q.1 (fm_cls.getD q.2.1 ("", fm_T0, 0)).1 ((fm_cls.getD q.2.1 ("", fm_T0, 0)).2.1 q.2.2).2.1 ((fm_cls.getD q.2.1 ("", fm_T0, 0)).2.1 q.2.2).2.2.1), w ∈ fm_TB := fm_in _ [622, 623, 624, 625, 626, 627, 628, 629, 630, 631, 632, 633, 634, 635, 636, 642, 643, 644, 645, 646, 647, 648, 649, 640, 641, 639, 637, 638, 650, 652, 651, 654, 653] (by decide +kernel) (by decide +kernel)
def fm_fl7 (k : Nat) : Option (Nat × Nat) := none
def fm_fll7 : List (Nat × Nat × Nat) := []
def fm_fl8 (k : Nat) : Option (Nat × Nat) := none
def fm_fll8 : List (Nat × Nat × Nat) := []
def fm_fl9 (k : Nat) : Option (Nat × Nat) := none
def fm_fll9 : List (Nat × Nat × Nat) := []
def fm_kdl : List (Nat × Nat × UInt64) := [(5, 124, 4593671619917905920), (6, 164, 4741671816366391296), (6, 166, 13965043853221167104), (6, 202, 4593671619917905920), (7, 34, 4741671816366391296), (7, 36, 13965043853221167104), (7, 38, 9218868437227405311), (7, 40, 18442240474082181119), (8, 63, 4593671619917905920)]
def fm_kd (oc ix : Nat) : Option UInt64 := (fm_kdl.find? (fun q => Nat.beq q.1 oc && Nat.beq q.2.1 ix)).map (fun q => q.2.2)
theorem fm_kdw : ∀ w ∈ fm_kdl.map (fun q => Cond.constantDouble (fm_cn q.1) q.2.1 q.2.2), w ∈ fm_TB := fm_in _ [514, 859, 860, 847, 526, 527, 562, 563, 895] (by decide +kernel) (by decide +kernel)
def fm_kfl : List (Nat × Nat × UInt32) := [(5, 123, 1040187392), (6, 201, 1040187392)]
def fm_kf (oc ix : Nat) : Option UInt32 := (fm_kfl.find? (fun q => Nat.beq q.1 oc && Nat.beq q.2.1 ix)).map (fun q => q.2.2)
theorem fm_kfw : ∀ w ∈ fm_kfl.map (fun q => Cond.constantFloat (fm_cn q.1) q.2.1 q.2.2), w ∈ fm_TB := fm_in _ [513, 846] (by decide +kernel) (by decide +kernel)
