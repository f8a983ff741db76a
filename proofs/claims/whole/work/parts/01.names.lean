def RX0 : String := "TermSimplifier$Atom"
def TX0 : u_T := fun k => match k with
  | 0 => ("TermSimplifier$Atom", "isName", "Z", true)
  | _ => ("TermSimplifier$Atom", "value", "I", true)
def tyX0 : Nat → FieldType := fun k => match k with
  | 0 => .boolean
  | _ => .int
theorem nmX0 : ∀ a, a < 2 → ∀ b, b < 2 → a ≠ b → (TX0 a).2.1 ≠ (TX0 b).2.1 := by decide +kernel
theorem tyX0_ok : ∀ k, k < 2 → parseFieldDescriptor (TX0 k).2.2.1 = some (tyX0 k) := by decide +kernel
def RX1 : String := "TermSimplifier$Binding"
def TX1 : u_T := fun k => match k with
  | 0 => ("TermSimplifier$Binding", "name", "I", true)
  | 1 => ("TermSimplifier$Binding", "kind", "I", true)
  | 2 => ("TermSimplifier$Binding", "detail", "I", true)
  | 3 => ("TermSimplifier$Binding", "atoms", "[LTermSimplifier$Atom;", true)
  | _ => ("TermSimplifier$Binding", "rows", "[LTermSimplifier$Row;", true)
def tyX1 : Nat → FieldType := fun k => match k with
  | 0 => .int
  | 1 => .int
  | 2 => .int
  | 3 => .array (.object "TermSimplifier$Atom")
  | _ => .array (.object "TermSimplifier$Row")
theorem nmX1 : ∀ a, a < 5 → ∀ b, b < 5 → a ≠ b → (TX1 a).2.1 ≠ (TX1 b).2.1 := by decide +kernel
theorem tyX1_ok : ∀ k, k < 5 → parseFieldDescriptor (TX1 k).2.2.1 = some (tyX1 k) := by decide +kernel
def RX2 : String := "TermSimplifier$Converter"
def TX2 : u_T := fun k => match k with
  | 0 => ("TermSimplifier$Converter", "code", "[I", true)
  | 1 => ("TermSimplifier$Converter", "length", "I", false)
  | 2 => ("TermSimplifier$Converter", "at", "I", false)
  | 3 => ("TermSimplifier$Converter", "meanings", "[LTermSimplifier$Atom;", true)
  | 4 => ("TermSimplifier$Converter", "foundFreeVariable", "Z", false)
  | 5 => ("TermSimplifier$Converter", "names", "I", false)
  | _ => ("TermSimplifier$Converter", "deepestRow", "I", false)
def tyX2 : Nat → FieldType := fun k => match k with
  | 0 => .array .int
  | 1 => .int
  | 2 => .int
  | 3 => .array (.object "TermSimplifier$Atom")
  | 4 => .boolean
  | 5 => .int
  | _ => .int
theorem nmX2 : ∀ a, a < 7 → ∀ b, b < 7 → a ≠ b → (TX2 a).2.1 ≠ (TX2 b).2.1 := by decide +kernel
theorem tyX2_ok : ∀ k, k < 7 → parseFieldDescriptor (TX2 k).2.2.1 = some (tyX2 k) := by decide +kernel
def RX3 : String := "TermSimplifier$Machine"
def TX3 : u_T := fun k => match k with
  | 0 => ("TermSimplifier$Machine", "cellNames", "[I", true)
  | 1 => ("TermSimplifier$Machine", "cellValues", "[J", true)
  | 2 => ("TermSimplifier$Machine", "cellsBefore", "[I", true)
  | 3 => ("TermSimplifier$Machine", "cells", "I", false)
  | 4 => ("TermSimplifier$Machine", "functions", "[LTermSimplifier$Binding;", true)
  | 5 => ("TermSimplifier$Machine", "functionCells", "[I", true)
  | 6 => ("TermSimplifier$Machine", "functionsMade", "I", false)
  | 7 => ("TermSimplifier$Machine", "ending", "I", false)
  | 8 => ("TermSimplifier$Machine", "number", "I", false)
  | 9 => ("TermSimplifier$Machine", "endedInFunction", "Z", false)
  | 10 => ("TermSimplifier$Machine", "begun", "I", false)
  | _ => ("TermSimplifier$Machine", "deepest", "I", false)
def tyX3 : Nat → FieldType := fun k => match k with
  | 0 => .array .int
  | 1 => .array .long
  | 2 => .array .int
  | 3 => .int
  | 4 => .array (.object "TermSimplifier$Binding")
  | 5 => .array .int
  | 6 => .int
  | 7 => .int
  | 8 => .int
  | 9 => .boolean
  | 10 => .int
  | _ => .int
theorem nmX3 : ∀ a, a < 12 → ∀ b, b < 12 → a ≠ b → (TX3 a).2.1 ≠ (TX3 b).2.1 := by decide +kernel
theorem tyX3_ok : ∀ k, k < 12 → parseFieldDescriptor (TX3 k).2.2.1 = some (tyX3 k) := by decide +kernel
def RX4 : String := "TermSimplifier$Passes"
def TX4 : u_T := fun k => match k with
  | 0 => ("TermSimplifier$Passes", "path", "[LTermSimplifier$Row;", true)
  | _ => ("TermSimplifier$Passes", "places", "[I", true)
def tyX4 : Nat → FieldType := fun k => match k with
  | 0 => .array (.object "TermSimplifier$Row")
  | _ => .array .int
theorem nmX4 : ∀ a, a < 2 → ∀ b, b < 2 → a ≠ b → (TX4 a).2.1 ≠ (TX4 b).2.1 := by decide +kernel
theorem tyX4_ok : ∀ k, k < 2 → parseFieldDescriptor (TX4 k).2.2.1 = some (tyX4 k) := by decide +kernel
def RX5 : String := "TermSimplifier$Program"
def TX5 : u_T := fun k => match k with
  | 0 => ("TermSimplifier$Program", "row", "LTermSimplifier$Row;", true)
  | 1 => ("TermSimplifier$Program", "names", "I", true)
  | _ => ("TermSimplifier$Program", "steps", "[I", true)
def tyX5 : Nat → FieldType := fun k => match k with
  | 0 => .object "TermSimplifier$Row"
  | 1 => .int
  | _ => .array .int
theorem nmX5 : ∀ a, a < 3 → ∀ b, b < 3 → a ≠ b → (TX5 a).2.1 ≠ (TX5 b).2.1 := by decide +kernel
theorem tyX5_ok : ∀ k, k < 3 → parseFieldDescriptor (TX5 k).2.2.1 = some (tyX5 k) := by decide +kernel
def RX6 : String := "TermSimplifier$Row"
def TX6 : u_T := fun k => match k with
  | 0 => ("TermSimplifier$Row", "bindings", "Ljava/util/ArrayList;", true)
  | _ => ("TermSimplifier$Row", "result", "LTermSimplifier$Atom;", false)
def tyX6 : Nat → FieldType := fun k => match k with
  | 0 => .object "java/util/ArrayList"
  | _ => .object "TermSimplifier$Atom"
theorem nmX6 : ∀ a, a < 2 → ∀ b, b < 2 → a ≠ b → (TX6 a).2.1 ≠ (TX6 b).2.1 := by decide +kernel
theorem tyX6_ok : ∀ k, k < 2 → parseFieldDescriptor (TX6 k).2.2.1 = some (tyX6 k) := by decide +kernel
def RX7 : String := "TermSimplifier$Script"
def TX7 : u_T := fun k => match k with
  | 0 => ("TermSimplifier$Script", "numbers", "[I", true)
  | _ => ("TermSimplifier$Script", "length", "I", false)
def tyX7 : Nat → FieldType := fun k => match k with
  | 0 => .array .int
  | _ => .int
theorem nmX7 : ∀ a, a < 2 → ∀ b, b < 2 → a ≠ b → (TX7 a).2.1 ≠ (TX7 b).2.1 := by decide +kernel
theorem tyX7_ok : ∀ k, k < 2 → parseFieldDescriptor (TX7 k).2.2.1 = some (tyX7 k) := by decide +kernel
def RX8 : String := "TermSimplifier"
def TX8 : u_T := fun k => match k with
  | 0 => ("TermSimplifier", "converter", "LTermSimplifier$Converter;", true)
  | 1 => ("TermSimplifier", "passes", "LTermSimplifier$Passes;", true)
  | 2 => ("TermSimplifier", "script", "LTermSimplifier$Script;", true)
  | 3 => ("TermSimplifier", "machine", "LTermSimplifier$Machine;", true)
  | _ => ("TermSimplifier", "program", "LTermSimplifier$Program;", false)
def tyX8 : Nat → FieldType := fun k => match k with
  | 0 => .object "TermSimplifier$Converter"
  | 1 => .object "TermSimplifier$Passes"
  | 2 => .object "TermSimplifier$Script"
  | 3 => .object "TermSimplifier$Machine"
  | _ => .object "TermSimplifier$Program"
theorem nmX8 : ∀ a, a < 5 → ∀ b, b < 5 → a ≠ b → (TX8 a).2.1 ≠ (TX8 b).2.1 := by decide +kernel
theorem tyX8_ok : ∀ k, k < 5 → parseFieldDescriptor (TX8 k).2.2.1 = some (tyX8 k) := by decide +kernel
def RX9 : String := "TermSimplifierModel"
def TX9 : u_T := fun k => match k with
  | 0 => ("TermSimplifierModel", "thrown", "I", false)
  | 1 => ("TermSimplifierModel", "typed", "I", false)
  | 2 => ("TermSimplifierModel", "code", "[I", true)
  | 3 => ("TermSimplifierModel", "is", "Z", false)
  | 4 => ("TermSimplifierModel", "length", "I", false)
  | 5 => ("TermSimplifierModel", "row", "[I", true)
  | 6 => ("TermSimplifierModel", "piece", "[I", true)
  | 7 => ("TermSimplifierModel", "counts", "[I", true)
  | 8 => ("TermSimplifierModel", "names", "I", false)
  | 9 => ("TermSimplifierModel", "at", "I", false)
  | 10 => ("TermSimplifierModel", "open", "I", false)
  | 11 => ("TermSimplifierModel", "what", "[I", true)
  | 12 => ("TermSimplifierModel", "state", "[I", true)
  | 13 => ("TermSimplifierModel", "variable", "[I", true)
  | 14 => ("TermSimplifierModel", "header", "[I", true)
  | 15 => ("TermSimplifierModel", "keptKind", "[I", true)
  | 16 => ("TermSimplifierModel", "keptValue", "[I", true)
  | 17 => ("TermSimplifierModel", "atomKind", "I", false)
  | 18 => ("TermSimplifierModel", "atomValue", "I", false)
  | 19 => ("TermSimplifierModel", "meansKind", "[I", true)
  | 20 => ("TermSimplifierModel", "meansValue", "[I", true)
  | 21 => ("TermSimplifierModel", "deep", "I", false)
  | 22 => ("TermSimplifierModel", "deepest", "I", false)
  | 23 => ("TermSimplifierModel", "draft", "I", false)
  | 24 => ("TermSimplifierModel", "draftNames", "I", false)
  | 25 => ("TermSimplifierModel", "draftRow", "[I", true)
  | 26 => ("TermSimplifierModel", "cells", "I", false)
  | 27 => ("TermSimplifierModel", "cellName", "[I", true)
  | 28 => ("TermSimplifierModel", "cellIs", "[Z", true)
  | 29 => ("TermSimplifierModel", "cellValue", "[I", true)
  | 30 => ("TermSimplifierModel", "cellNext", "[I", true)
  | 31 => ("TermSimplifierModel", "functions", "I", false)
  | 32 => ("TermSimplifierModel", "functionRow", "[I", true)
  | 33 => ("TermSimplifierModel", "functionName", "[I", true)
  | 34 => ("TermSimplifierModel", "functionCells", "[I", true)
  | 35 => ("TermSimplifierModel", "frames", "I", false)
  | 36 => ("TermSimplifierModel", "place", "[I", true)
  | 37 => ("TermSimplifierModel", "chain", "[I", true)
  | 38 => ("TermSimplifierModel", "back", "[I", true)
  | 39 => ("TermSimplifierModel", "wants", "[I", true)
  | 40 => ("TermSimplifierModel", "valueIs", "Z", false)
  | 41 => ("TermSimplifierModel", "value", "I", false)
  | _ => ("TermSimplifierModel", "ran", "[I", true)
def tyX9 : Nat → FieldType := fun k => match k with
  | 0 => .int
  | 1 => .int
  | 2 => .array .int
  | 3 => .boolean
  | 4 => .int
  | 5 => .array .int
  | 6 => .array .int
  | 7 => .array .int
  | 8 => .int
  | 9 => .int
  | 10 => .int
  | 11 => .array .int
  | 12 => .array .int
  | 13 => .array .int
  | 14 => .array .int
  | 15 => .array .int
  | 16 => .array .int
  | 17 => .int
  | 18 => .int
  | 19 => .array .int
  | 20 => .array .int
  | 21 => .int
  | 22 => .int
  | 23 => .int
  | 24 => .int
  | 25 => .array .int
  | 26 => .int
  | 27 => .array .int
  | 28 => .array .boolean
  | 29 => .array .int
  | 30 => .array .int
  | 31 => .int
  | 32 => .array .int
  | 33 => .array .int
  | 34 => .array .int
  | 35 => .int
  | 36 => .array .int
  | 37 => .array .int
  | 38 => .array .int
  | 39 => .array .int
  | 40 => .boolean
  | 41 => .int
  | _ => .array .int
theorem nmX9 : ∀ a, a < 43 → ∀ b, b < 43 → a ≠ b → (TX9 a).2.1 ≠ (TX9 b).2.1 := by decide +kernel
theorem tyX9_ok : ∀ k, k < 43 → parseFieldDescriptor (TX9 k).2.2.1 = some (tyX9 k) := by decide +kernel
def RJx4a65c : String := "java/util/ArrayList"
def TJx4a65c : u_T := fun k => match k with
  | 0 => ("java/util/AbstractList", "modCount", "I", false)
  | 1 => ("java/util/ArrayList", "elementData", "[Ljava/lang/Object;", false)
  | _ => ("java/util/ArrayList", "size", "I", false)
def tyJx4a65c : Nat → FieldType := fun k => match k with
  | 0 => .int
  | 1 => .array (.object "java/lang/Object")
  | _ => .int
theorem nmJx4a65c : ∀ a, a < 3 → ∀ b, b < 3 → a ≠ b → (TJx4a65c a).2.1 ≠ (TJx4a65c b).2.1 := by decide +kernel
theorem tyJx4a65c_ok : ∀ k, k < 3 → parseFieldDescriptor (TJx4a65c k).2.2.1 = some (tyJx4a65c k) := by decide +kernel
abbrev vwCl : List vw_C := [(RJx4a65c, TJx4a65c, 3), (RX0, TX0, 2), (RX1, TX1, 5), (RX2, TX2, 7), (RX3, TX3, 12), (RX4, TX4, 2), (RX5, TX5, 3), (RX6, TX6, 2), (RX7, TX7, 2), (RX8, TX8, 5), (RX9, TX9, 43)]
def gtbl : List Cond := lw_tbl.filter goodWord
theorem gt_tab {w : Cond} (i : Nat) (h : tables_1[i]? = some w) (g : goodWord w = true) : w ∈ gtbl := List.mem_filter.mpr ⟨List.mem_append_right _ (List.mem_of_getElem? h), g⟩
theorem gt_sel {w : Cond} (i : Nat) (h : (k2_sels lw_privs)[i]? = some w) (g : goodWord w = true) : w ∈ gtbl := List.mem_filter.mpr ⟨List.mem_append_left _ (List.mem_of_getElem? h), g⟩
def cnm : List String := ["TermSimplifierModel", "TermSimplifier", "TermSimplifier$Atom", "TermSimplifier$Binding", "TermSimplifier$Program", "TermSimplifier$Script", "TermSimplifier$Row", "TermSimplifier$Converter", "TermSimplifier$Passes", "TermSimplifier$Machine", "java/lang/Math", "java/util/AbstractCollection", "java/util/AbstractList", "java/util/ArrayList", "java/util/Arrays", "java/util/Objects", "jdk/internal/util/ArraysSupport", "jdk/internal/util/Preconditions", "TermSimplifierLaw"]
/-- name, code, locals, return, number of the owner, number of arguments with the receiver, place of its word -/
def mtab : List (MethodName × ByteArray × Nat × Option FieldType × Nat × Nat × Nat) := [
  (⟨"TermSimplifierModel", "<init>", "()V"⟩, prog_11_method_1_code, 1, none, 0, 1, 796),
  (⟨"TermSimplifierModel", "thrown", "()I"⟩, prog_11_method_2_code, 1, some .int, 0, 1, 932),
  (⟨"TermSimplifierModel", "type", "(I)Z"⟩, prog_11_method_4_code, 2, some .boolean, 0, 2, 936),
  (⟨"TermSimplifierModel", "convert", "()I"⟩, prog_11_method_21_code, 3, some .int, 0, 1, 940),
  (⟨"TermSimplifierModel", "converts", "()Z"⟩, prog_11_method_20_code, 4, some .boolean, 0, 1, 944),
  (⟨"TermSimplifierModel", "begins", "()I"⟩, prog_11_method_13_code, 4, some .int, 0, 1, 948),
  (⟨"TermSimplifierModel", "next", "()I"⟩, prog_11_method_9_code, 1, some .int, 0, 1, 952),
  (⟨"TermSimplifierModel", "atom", "(II)V"⟩, prog_11_method_8_code, 3, none, 0, 3, 956),
  (⟨"TermSimplifierModel", "newName", "()I"⟩, prog_11_method_7_code, 1, some .int, 0, 1, 960),
  (⟨"TermSimplifierModel", "emit", "(I)V"⟩, prog_11_method_5_code, 2, none, 0, 2, 964),
  (⟨"TermSimplifierModel", "rowBegins", "()V"⟩, prog_11_method_12_code, 1, none, 0, 1, 968),
  (⟨"TermSimplifierModel", "means", "(III)V"⟩, prog_11_method_10_code, 5, none, 0, 4, 972),
  (⟨"TermSimplifierModel", "goesOn", "()Z"⟩, prog_11_method_17_code, 3, some .boolean, 0, 1, 976),
  (⟨"TermSimplifierModel", "rowEnds", "()V"⟩, prog_11_method_15_code, 1, none, 0, 1, 980),
  (⟨"TermSimplifierModel", "emitAtom", "(II)V"⟩, prog_11_method_6_code, 3, none, 0, 3, 984),
  (⟨"TermSimplifierModel", "meansAgain", "(I)V"⟩, prog_11_method_11_code, 2, none, 0, 2, 988),
  (⟨"TermSimplifierModel", "named", "(I)V"⟩, prog_11_method_16_code, 3, none, 0, 2, 992),
  (⟨"TermSimplifierModel", "branches", "(II)Z"⟩, prog_11_method_18_code, 3, some .boolean, 0, 3, 996),
  (⟨"TermSimplifierModel", "bind", "(II)V"⟩, prog_11_method_14_code, 3, none, 0, 3, 1000),
  (⟨"TermSimplifierModel", "pairs", "(II)Z"⟩, prog_11_method_19_code, 4, some .boolean, 0, 3, 1004),
  (⟨"TermSimplifierModel", "fails", "(ZZ)Z"⟩, prog_11_method_3_code, 3, some .boolean, 0, 3, 1008),
  (⟨"TermSimplifierModel", "bindings", "()I"⟩, prog_11_method_23_code, 3, some .int, 0, 1, 1012),
  (⟨"TermSimplifierModel", "size", "(I)I"⟩, prog_11_method_22_code, 3, some .int, 0, 2, 1016),
  (⟨"TermSimplifierModel", "pass", "()I"⟩, prog_11_method_39_code, 1, some .int, 0, 1, 1020),
  (⟨"TermSimplifierModel", "goesOver", "()I"⟩, prog_11_method_38_code, 4, some .int, 0, 1, 1024),
  (⟨"TermSimplifierModel", "step", "(I)I"⟩, prog_11_method_37_code, 2, some .int, 0, 2, 1028),
  (⟨"TermSimplifierModel", "fold", "(I)I"⟩, prog_11_method_33_code, 5, some .int, 0, 2, 1032),
  (⟨"TermSimplifierModel", "sum", "(III)I"⟩, prog_11_method_32_code, 3, some .int, 0, 3, 1035),
  (⟨"TermSimplifierModel", "cut", "(II)V"⟩, prog_11_method_29_code, 4, none, 0, 3, 1039),
  (⟨"TermSimplifierModel", "standsFor", "(III)V"⟩, prog_11_method_27_code, 7, none, 0, 4, 1043),
  (⟨"TermSimplifierModel", "atoms", "(I)I"⟩, prog_11_method_24_code, 3, some .int, 0, 2, 1047),
  (⟨"TermSimplifierModel", "firstAtom", "(I)I"⟩, prog_11_method_25_code, 2, some .int, 0, 2, 1051),
  (⟨"TermSimplifierModel", "choose", "(I)I"⟩, prog_11_method_34_code, 10, some .int, 0, 2, 1055),
  (⟨"TermSimplifierModel", "rowEnd", "(I)I"⟩, prog_11_method_28_code, 5, some .int, 0, 2, 1059),
  (⟨"TermSimplifierModel", "insert", "(II)V"⟩, prog_11_method_30_code, 4, none, 0, 3, 1063),
  (⟨"TermSimplifierModel", "inline", "(I)I"⟩, prog_11_method_35_code, 11, some .int, 0, 2, 1067),
  (⟨"TermSimplifierModel", "function", "(I)I"⟩, prog_11_method_31_code, 4, some .int, 0, 2, 1071),
  (⟨"TermSimplifierModel", "occurs", "(I)I"⟩, prog_11_method_26_code, 6, some .int, 0, 2, 1075),
  (⟨"TermSimplifierModel", "drop", "(I)I"⟩, prog_11_method_36_code, 2, some .int, 0, 2, 1079),
  (⟨"TermSimplifierModel", "simplify", "()I"⟩, prog_11_method_40_code, 2, some .int, 0, 1, 1083),
  (⟨"TermSimplifierModel", "count", "(I)I"⟩, prog_11_method_41_code, 2, some .int, 0, 2, 1087),
  (⟨"TermSimplifierModel", "written", "(I)I"⟩, prog_11_method_42_code, 2, some .int, 0, 2, 1091),
  (⟨"TermSimplifierModel", "run", "()I"⟩, prog_11_method_52_code, 4, some .int, 0, 1, 1095),
  (⟨"TermSimplifierModel", "enters", "(IIII)I"⟩, prog_11_method_45_code, 5, some .int, 0, 5, 1099),
  (⟨"TermSimplifierModel", "returns", "(II)V"⟩, prog_11_method_51_code, 3, none, 0, 3, 1103),
  (⟨"TermSimplifierModel", "load", "(II)V"⟩, prog_11_method_43_code, 4, none, 0, 3, 1107),
  (⟨"TermSimplifierModel", "keep", "(II)I"⟩, prog_11_method_44_code, 3, some .int, 0, 3, 1111),
  (⟨"TermSimplifierModel", "works", "(II)I"⟩, prog_11_method_50_code, 3, some .int, 0, 3, 1115),
  (⟨"TermSimplifierModel", "makes", "(II)V"⟩, prog_11_method_49_code, 3, none, 0, 3, 1119),
  (⟨"TermSimplifierModel", "applies", "(II)I"⟩, prog_11_method_46_code, 5, some .int, 0, 3, 1123),
  (⟨"TermSimplifierModel", "reckons", "(II)I"⟩, prog_11_method_47_code, 5, some .int, 0, 3, 1127),
  (⟨"TermSimplifierModel", "chooses", "(II)I"⟩, prog_11_method_48_code, 5, some .int, 0, 3, 1131),
  (⟨"TermSimplifierModel", "ran", "(I)I"⟩, prog_11_method_53_code, 2, some .int, 0, 2, 1135),
  (⟨"TermSimplifier", "<init>", "()V"⟩, prog_1_method_1_code, 1, none, 1, 1, 31),
  (⟨"TermSimplifier", "type", "(I)Z"⟩, prog_1_method_2_code, 2, some .boolean, 1, 2, 166),
  (⟨"TermSimplifier", "convert", "()I"⟩, prog_1_method_3_code, 2, some .int, 1, 1, 179),
  (⟨"TermSimplifier", "pass", "()I"⟩, prog_1_method_4_code, 1, some .int, 1, 1, 548),
  (⟨"TermSimplifier", "dividesByZero", "(II)Z"⟩, prog_1_method_10_code, 2, some .boolean, 1, 2, 591),
  (⟨"TermSimplifier", "calculated", "(III)I"⟩, prog_1_method_11_code, 3, some .int, 1, 3, 595),
  (⟨"TermSimplifier", "simplify", "()I"⟩, prog_1_method_5_code, 2, some .int, 1, 1, 667),
  (⟨"TermSimplifier", "count", "(I)I"⟩, prog_1_method_6_code, 2, some .int, 1, 2, 676),
  (⟨"TermSimplifier", "written", "(I)I"⟩, prog_1_method_7_code, 2, some .int, 1, 2, 699),
  (⟨"TermSimplifier", "run", "()I"⟩, prog_1_method_8_code, 1, some .int, 1, 1, 730),
  (⟨"TermSimplifier", "ran", "(I)I"⟩, prog_1_method_9_code, 2, some .int, 1, 2, 790),
  (⟨"TermSimplifier$Atom", "<init>", "(ZI)V"⟩, prog_2_method_1_code, 3, none, 2, 3, 239),
  (⟨"TermSimplifier$Atom", "isTheName", "(I)Z"⟩, prog_2_method_2_code, 2, some .boolean, 2, 2, 620),
  (⟨"TermSimplifier$Binding", "<init>", "(III[LTermSimplifier$Atom;[LTermSimplifier$Row;)V"⟩, prog_3_method_1_code, 6, none, 3, 6, 299),
  (⟨"TermSimplifier$Program", "<init>", "(LTermSimplifier$Row;I)V"⟩, prog_7_method_1_code, 3, none, 4, 3, 411),
  (⟨"TermSimplifier$Program", "allSteps", "()I"⟩, prog_7_method_2_code, 1, some .int, 4, 1, 572),
  (⟨"TermSimplifier$Script", "<init>", "()V"⟩, prog_9_method_1_code, 1, none, 5, 1, 86),
  (⟨"TermSimplifier$Script", "writeProgram", "(LTermSimplifier$Program;)V"⟩, prog_9_method_2_code, 2, none, 5, 2, 703),
  (⟨"TermSimplifier$Script", "writeRow", "(LTermSimplifier$Row;I)V"⟩, prog_9_method_3_code, 4, none, 5, 3, 707),
  (⟨"TermSimplifier$Script", "writeBinding", "(LTermSimplifier$Binding;I)V"⟩, prog_9_method_4_code, 7, none, 5, 3, 714),
  (⟨"TermSimplifier$Script", "put", "(I)V"⟩, prog_9_method_6_code, 2, none, 5, 2, 718),
  (⟨"TermSimplifier$Script", "writeAtom", "(LTermSimplifier$Atom;)V"⟩, prog_9_method_5_code, 2, none, 5, 2, 722),
  (⟨"TermSimplifier$Row", "<init>", "()V"⟩, prog_8_method_1_code, 1, none, 6, 1, 207),
  (⟨"TermSimplifier$Row", "allBindings", "()I"⟩, prog_8_method_2_code, 1, some .int, 6, 1, 518),
  (⟨"TermSimplifier$Row", "bindingsIn", "(LTermSimplifier$Row;I)I"⟩, prog_8_method_3_code, 8, some .int, 6, 2, 521),
  (⟨"TermSimplifier$Row", "takeAway", "(I)V"⟩, prog_8_method_9_code, 2, none, 6, 2, 600),
  (⟨"TermSimplifier$Row", "replace", "(ILTermSimplifier$Atom;)V"⟩, prog_8_method_6_code, 3, none, 6, 3, 613),
  (⟨"TermSimplifier$Row", "replaceIn", "(LTermSimplifier$Row;ILTermSimplifier$Atom;I)V"⟩, prog_8_method_7_code, 10, none, 6, 4, 616),
  (⟨"TermSimplifier$Row", "putInPlace", "(ILTermSimplifier$Row;)V"⟩, prog_8_method_10_code, 4, none, 6, 3, 628),
  (⟨"TermSimplifier$Row", "placeOf", "(I)I"⟩, prog_8_method_8_code, 3, some .int, 6, 2, 649),
  (⟨"TermSimplifier$Row", "occurrencesOf", "(I)I"⟩, prog_8_method_4_code, 2, some .int, 6, 2, 653),
  (⟨"TermSimplifier$Row", "occurrencesIn", "(LTermSimplifier$Row;II)I"⟩, prog_8_method_5_code, 10, some .int, 6, 3, 656),
  (⟨"TermSimplifier$Converter", "<init>", "()V"⟩, prog_4_method_1_code, 1, none, 7, 1, 39),
  (⟨"TermSimplifier$Converter", "addToCode", "(I)Z"⟩, prog_4_method_2_code, 2, some .boolean, 7, 2, 170),
  (⟨"TermSimplifier$Converter", "takeProgram", "()LTermSimplifier$Program;"⟩, prog_4_method_3_code, 3, some (.object "TermSimplifier$Program"), 7, 1, 183),
  (⟨"TermSimplifier$Converter", "isOneTerm", "(I)Z"⟩, prog_4_method_4_code, 5, some .boolean, 7, 2, 187),
  (⟨"TermSimplifier$Converter", "isHead", "(II)Z"⟩, prog_4_method_5_code, 5, some .boolean, 7, 3, 191),
  (⟨"TermSimplifier$Converter", "rowOfNextTerm", "(II)LTermSimplifier$Row;"⟩, prog_4_method_6_code, 4, some (.object "TermSimplifier$Row"), 7, 3, 199),
  (⟨"TermSimplifier$Converter", "atomOfNextTerm", "(LTermSimplifier$Row;II)LTermSimplifier$Atom;"⟩, prog_4_method_7_code, 5, some (.object "TermSimplifier$Atom"), 7, 4, 273),
  (⟨"TermSimplifier$Converter", "nextInt", "()I"⟩, prog_4_method_15_code, 1, some .int, 7, 1, 278),
  (⟨"TermSimplifier$Converter", "meaningOf", "(I)LTermSimplifier$Atom;"⟩, prog_4_method_13_code, 3, some (.object "TermSimplifier$Atom"), 7, 2, 282),
  (⟨"TermSimplifier$Converter", "atomOfFunction", "(LTermSimplifier$Row;II)LTermSimplifier$Atom;"⟩, prog_4_method_8_code, 8, some (.object "TermSimplifier$Atom"), 7, 4, 286),
  (⟨"TermSimplifier$Converter", "newName", "()LTermSimplifier$Atom;"⟩, prog_4_method_14_code, 2, some (.object "TermSimplifier$Atom"), 7, 1, 290),
  (⟨"TermSimplifier$Converter", "bind", "(LTermSimplifier$Row;II[LTermSimplifier$Atom;[LTermSimplifier$Row;)LTermSimplifier$Atom;"⟩, prog_4_method_12_code, 7, some (.object "TermSimplifier$Atom"), 7, 6, 294),
  (⟨"TermSimplifier$Converter", "atomOfPair", "(LTermSimplifier$Row;III)LTermSimplifier$Atom;"⟩, prog_4_method_9_code, 8, some (.object "TermSimplifier$Atom"), 7, 5, 398),
  (⟨"TermSimplifier$Converter", "atomOfLet", "(LTermSimplifier$Row;II)LTermSimplifier$Atom;"⟩, prog_4_method_10_code, 8, some (.object "TermSimplifier$Atom"), 7, 4, 402),
  (⟨"TermSimplifier$Converter", "atomOfIf", "(LTermSimplifier$Row;II)LTermSimplifier$Atom;"⟩, prog_4_method_11_code, 7, some (.object "TermSimplifier$Atom"), 7, 4, 406),
  (⟨"TermSimplifier$Passes", "<init>", "()V"⟩, prog_6_method_1_code, 1, none, 8, 1, 71),
  (⟨"TermSimplifier$Passes", "makeOne", "(LTermSimplifier$Program;)I"⟩, prog_6_method_2_code, 3, some .int, 8, 2, 568),
  (⟨"TermSimplifier$Passes", "goOver", "(LTermSimplifier$Program;LTermSimplifier$Row;I)V"⟩, prog_6_method_3_code, 10, none, 8, 4, 576),
  (⟨"TermSimplifier$Passes", "didStep", "(LTermSimplifier$Program;LTermSimplifier$Binding;I)Z"⟩, prog_6_method_4_code, 4, some .boolean, 8, 4, 584),
  (⟨"TermSimplifier$Passes", "didFold", "(LTermSimplifier$Program;LTermSimplifier$Binding;I)Z"⟩, prog_6_method_5_code, 7, some .boolean, 8, 4, 588),
  (⟨"TermSimplifier$Passes", "didChoose", "(LTermSimplifier$Program;LTermSimplifier$Binding;I)Z"⟩, prog_6_method_6_code, 6, some .boolean, 8, 4, 624),
  (⟨"TermSimplifier$Passes", "didInline", "(LTermSimplifier$Program;LTermSimplifier$Binding;I)Z"⟩, prog_6_method_7_code, 9, some .boolean, 8, 4, 641),
  (⟨"TermSimplifier$Passes", "levelThatBinds", "(II)I"⟩, prog_6_method_8_code, 4, some .int, 8, 3, 645),
  (⟨"TermSimplifier$Passes", "didDrop", "(LTermSimplifier$Program;LTermSimplifier$Binding;I)Z"⟩, prog_6_method_9_code, 4, some .boolean, 8, 4, 660),
  (⟨"TermSimplifier$Machine", "<init>", "()V"⟩, prog_5_method_1_code, 1, none, 9, 1, 101),
  (⟨"TermSimplifier$Machine", "start", "(LTermSimplifier$Program;)I"⟩, prog_5_method_2_code, 4, some .int, 9, 2, 734),
  (⟨"TermSimplifier$Machine", "valueOfRow", "(LTermSimplifier$Row;II)J"⟩, prog_5_method_3_code, 9, some .long, 9, 4, 738),
  (⟨"TermSimplifier$Machine", "endWith", "(I)J"⟩, prog_5_method_11_code, 2, some .long, 9, 2, 742),
  (⟨"TermSimplifier$Machine", "valueOfBinding", "(LTermSimplifier$Binding;II)J"⟩, prog_5_method_4_code, 4, some .long, 9, 4, 749),
  (⟨"TermSimplifier$Machine", "newFunction", "(LTermSimplifier$Binding;I)J"⟩, prog_5_method_10_code, 3, some .long, 9, 3, 753),
  (⟨"TermSimplifier$Machine", "valueOfApply", "(LTermSimplifier$Binding;II)J"⟩, prog_5_method_5_code, 11, some .long, 9, 4, 758),
  (⟨"TermSimplifier$Machine", "valueOfAtom", "(LTermSimplifier$Atom;I)J"⟩, prog_5_method_8_code, 5, some .long, 9, 3, 762),
  (⟨"TermSimplifier$Machine", "intValue", "(I)J"⟩, prog_5_method_13_code, 1, some .long, 9, 1, 765),
  (⟨"TermSimplifier$Machine", "isFunction", "(J)Z"⟩, prog_5_method_12_code, 2, some .boolean, 9, 1, 769),
  (⟨"TermSimplifier$Machine", "newCell", "(IJI)I"⟩, prog_5_method_9_code, 5, some .int, 9, 4, 773),
  (⟨"TermSimplifier$Machine", "valueOfOp", "(LTermSimplifier$Binding;I)J"⟩, prog_5_method_6_code, 7, some .long, 9, 3, 777),
  (⟨"TermSimplifier$Machine", "valueOfIf", "(LTermSimplifier$Binding;II)J"⟩, prog_5_method_7_code, 7, some .long, 9, 4, 783),
  (⟨"java/lang/Math", "max", "(II)I"⟩, prog_18_method_65_code, 2, some .int, 10, 2, 202),
  (⟨"java/lang/Math", "min", "(II)I"⟩, prog_18_method_69_code, 2, some .int, 10, 2, 389),
  (⟨"java/util/AbstractCollection", "<init>", "()V"⟩, prog_24_method_1_code, 1, none, 11, 1, 219),
  (⟨"java/util/AbstractList", "<init>", "()V"⟩, prog_25_method_1_code, 1, none, 12, 1, 216),
  (⟨"java/util/ArrayList", "<init>", "()V"⟩, prog_26_method_2_code, 1, none, 13, 1, 213),
  (⟨"java/util/ArrayList", "add", "(Ljava/lang/Object;)Z"⟩, prog_26_method_25_code, 2, some .boolean, 13, 2, 338),
  (⟨"java/util/ArrayList", "add", "(Ljava/lang/Object;[Ljava/lang/Object;I)V"⟩, prog_26_method_24_code, 4, none, 13, 4, 342),
  (⟨"java/util/ArrayList", "grow", "()[Ljava/lang/Object;"⟩, prog_26_method_7_code, 1, some (.array (.object "java/lang/Object")), 13, 1, 346),
  (⟨"java/util/ArrayList", "grow", "(I)[Ljava/lang/Object;"⟩, prog_26_method_6_code, 4, some (.array (.object "java/lang/Object")), 13, 2, 350),
  (⟨"java/util/ArrayList", "size", "()I"⟩, prog_26_method_8_code, 1, some .int, 13, 1, 525),
  (⟨"java/util/ArrayList", "get", "(I)Ljava/lang/Object;"⟩, prog_26_method_20_code, 2, some (.object "java/lang/Object"), 13, 2, 529),
  (⟨"java/util/ArrayList", "elementData", "(I)Ljava/lang/Object;"⟩, prog_26_method_18_code, 2, some (.object "java/lang/Object"), 13, 2, 539),
  (⟨"java/util/ArrayList", "remove", "(I)Ljava/lang/Object;"⟩, prog_26_method_29_code, 4, some (.object "java/lang/Object"), 13, 2, 604),
  (⟨"java/util/ArrayList", "fastRemove", "([Ljava/lang/Object;I)V"⟩, prog_26_method_39_code, 4, none, 13, 3, 608),
  (⟨"java/util/ArrayList", "add", "(ILjava/lang/Object;)V"⟩, prog_26_method_26_code, 5, none, 13, 3, 633),
  (⟨"java/util/ArrayList", "rangeCheckForAdd", "(I)V"⟩, prog_26_method_45_code, 2, none, 13, 2, 637),
  (⟨"java/util/Arrays", "copyOf", "([Ljava/lang/Object;I)[Ljava/lang/Object;"⟩, prog_27_method_119_code, 2, some (.array (.object "java/lang/Object")), 14, 2, 361),
  (⟨"java/util/Arrays", "copyOf", "([Ljava/lang/Object;ILjava/lang/Class;)[Ljava/lang/Object;"⟩, prog_27_method_120_code, 4, some (.array (.object "java/lang/Object")), 14, 3, 383),
  (⟨"java/util/Objects", "checkIndex", "(II)I"⟩, prog_31_method_17_code, 2, some .int, 15, 2, 532),
  (⟨"jdk/internal/util/ArraysSupport", "newLength", "(III)I"⟩, prog_34_method_27_code, 4, some .int, 16, 3, 353),
  (⟨"jdk/internal/util/ArraysSupport", "hugeLength", "(II)I"⟩, prog_34_method_28_code, 3, some .int, 16, 2, 358),
  (⟨"jdk/internal/util/Preconditions", "checkIndex", "(IILjava/util/function/BiFunction;)I"⟩, prog_35_method_11_code, 3, some .int, 17, 3, 535),
  (⟨"TermSimplifierLaw", "convert", "(LTermSimplifier;[J)I"⟩, method_3_code, 3, some .int, 18, 2, 173),
  (⟨"TermSimplifierLaw", "pass", "(LTermSimplifier;[J)I"⟩, method_4_code, 3, some .int, 18, 2, 543),
  (⟨"TermSimplifierLaw", "simplify", "(LTermSimplifier;[J)I"⟩, method_5_code, 3, some .int, 18, 2, 663),
  (⟨"TermSimplifierLaw", "count", "(LTermSimplifier;I[J)I"⟩, method_6_code, 4, some .int, 18, 3, 671),
  (⟨"TermSimplifierLaw", "written", "(LTermSimplifier;I[J)I"⟩, method_7_code, 4, some .int, 18, 3, 695),
  (⟨"TermSimplifierLaw", "run", "(LTermSimplifier;[J)I"⟩, method_8_code, 3, some .int, 18, 2, 726),
  (⟨"TermSimplifierLaw", "ran", "(LTermSimplifier;I[J)I"⟩, method_9_code, 4, some .int, 18, 3, 786),
  (⟨"TermSimplifierLaw", "law", "([I)Z"⟩, code, 7, some .boolean, 18, 1, 0)]
def mrow (m : Nat) : MethodName × ByteArray × Nat × Option FieldType × Nat × Nat × Nat := mtab.getD m (⟨"", "", ""⟩, ByteArray.empty, 0, none, 0, 0, 0)
def mnam (m : Nat) : MethodName := (mrow m).1
def mbyt (m : Nat) : ByteArray := (mrow m).2.1
def mmax (m : Nat) : Nat := (mrow m).2.2.1
def mret (m : Nat) : Option FieldType := (mrow m).2.2.2.1
def mno (m : Nat) : Nat := (mrow m).2.2.2.2.1
def marg (m : Nat) : Nat := (mrow m).2.2.2.2.2.1
def mown (m : Nat) : String := cnm.getD (mno m) ""
