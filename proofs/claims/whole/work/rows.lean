section
def lw_okq (q : MethodName × Nat) : Prop := (q.1.cls ≠ "java/lang/invoke/MethodHandle" ∧ q.1.cls ≠ "java/lang/invoke/VarHandle") ∧ Cond.instantiable q.1.cls q.2 ∈ tables_1 ∧ Cond.privateMethod q.1 ∈ tables_1 ∧ Cond.instanceMethod q.1 ∈ tables_1
theorem lw_p0 : lw_okq (⟨"java/lang/NullPointerException", "getExtendedNPEMessage", "()Ljava/lang/String;"⟩, 8) := ⟨⟨by decide +kernel, by decide +kernel⟩, List.mem_of_getElem? (i := 142) (by decide +kernel), List.mem_of_getElem? (i := 182) (by decide +kernel), List.mem_of_getElem? (i := 183) (by decide +kernel)⟩
theorem lw_p1 : lw_okq (⟨"java/lang/Throwable", "fillInStackTrace", "(I)Ljava/lang/Throwable;"⟩, 6) := ⟨⟨by decide +kernel, by decide +kernel⟩, List.mem_of_getElem? (i := 192) (by decide +kernel), List.mem_of_getElem? (i := 190) (by decide +kernel), List.mem_of_getElem? (i := 191) (by decide +kernel)⟩
theorem lw_p2 : lw_okq (⟨"FaultBench", "boxAt", "(I)LFaultBench$Box;"⟩, 5) := ⟨⟨by decide +kernel, by decide +kernel⟩, List.mem_of_getElem? (i := 19) (by decide +kernel), List.mem_of_getElem? (i := 426) (by decide +kernel), List.mem_of_getElem? (i := 427) (by decide +kernel)⟩
theorem lw_p3 : lw_okq (⟨"FaultBenchModel", "fails", "(I)I"⟩, 13) := ⟨⟨by decide +kernel, by decide +kernel⟩, List.mem_of_getElem? (i := 526) (by decide +kernel), List.mem_of_getElem? (i := 580) (by decide +kernel), List.mem_of_getElem? (i := 581) (by decide +kernel)⟩
theorem lw_p4 : lw_okq (⟨"FaultBenchModel", "isThere", "(I)Z"⟩, 13) := ⟨⟨by decide +kernel, by decide +kernel⟩, List.mem_of_getElem? (i := 526) (by decide +kernel), List.mem_of_getElem? (i := 626) (by decide +kernel), List.mem_of_getElem? (i := 627) (by decide +kernel)⟩
def lw_privs_1 : List (MethodName × Nat) := [(⟨"java/lang/NullPointerException", "getExtendedNPEMessage", "()Ljava/lang/String;"⟩, 8), (⟨"java/lang/Throwable", "fillInStackTrace", "(I)Ljava/lang/Throwable;"⟩, 6), (⟨"FaultBench", "boxAt", "(I)LFaultBench$Box;"⟩, 5), (⟨"FaultBenchModel", "fails", "(I)I"⟩, 13), (⟨"FaultBenchModel", "isThere", "(I)Z"⟩, 13)]
theorem lw_r1 : ∀ q ∈ lw_privs_1, lw_okq q := List.forall_mem_cons.mpr ⟨lw_p0, List.forall_mem_cons.mpr ⟨lw_p1, List.forall_mem_cons.mpr ⟨lw_p2, List.forall_mem_cons.mpr ⟨lw_p3, List.forall_mem_cons.mpr ⟨lw_p4, fun _ h => absurd h List.not_mem_nil⟩⟩⟩⟩⟩
def lw_privs : List (MethodName × Nat) := lw_privs_1
def lw_tbl : List Cond := k2_sels lw_privs ++ tables_1
theorem lw_privs_ok : ∀ q ∈ lw_privs, lw_okq q := lw_r1
end
section
def RX0 : String := "FaultBench$Box"
def TX0 : u_T := fun k => match k with
  | _ => ("FaultBench$Box", "value", "I", false)
def tyX0 : Nat → FieldType := fun k => match k with
  | _ => .int
theorem nmX0 : ∀ a, a < 1 → ∀ b, b < 1 → a ≠ b → (TX0 a).2.1 ≠ (TX0 b).2.1 := by decide +kernel
theorem tyX0_ok : ∀ k, k < 1 → parseFieldDescriptor (TX0 k).2.2.1 = some (tyX0 k) := by decide +kernel
abbrev cX0_init : ByteArray := prog_2_method_1_code
def yX0_init : MethodName := ⟨RX0, "<init>", "(I)V"⟩
abbrev cX0_weightWith : ByteArray := prog_2_method_2_code
def yX0_weightWith : MethodName := ⟨RX0, "weightWith", "(I)I"⟩
def RX1 : String := "FaultBench$BoxRow"
def TX1 : u_T := fun k => match k with
  | 0 => ("FaultBench$BoxRow", "places", "[LFaultBench$Box;", true)
  | 1 => ("FaultBench$BoxRow", "made", "Z", false)
  | 2 => ("FaultBench$BoxRow", "discsAlone", "Z", false)
  | _ => ("FaultBench$BoxRow", "count", "I", false)
def tyX1 : Nat → FieldType := fun k => match k with
  | 0 => .array (.object "FaultBench$Box")
  | 1 => .boolean
  | 2 => .boolean
  | _ => .int
theorem nmX1 : ∀ a, a < 4 → ∀ b, b < 4 → a ≠ b → (TX1 a).2.1 ≠ (TX1 b).2.1 := by decide +kernel
theorem tyX1_ok : ∀ k, k < 4 → parseFieldDescriptor (TX1 k).2.2.1 = some (tyX1 k) := by decide +kernel
abbrev cX1_init : ByteArray := prog_3_method_1_code
def yX1_init : MethodName := ⟨RX1, "<init>", "()V"⟩
abbrev cX1_renew : ByteArray := prog_3_method_2_code
def yX1_renew : MethodName := ⟨RX1, "renew", "(IZ)V"⟩
abbrev cX1_isMade : ByteArray := prog_3_method_3_code
def yX1_isMade : MethodName := ⟨RX1, "isMade", "()Z"⟩
abbrev cX1_placeCount : ByteArray := prog_3_method_4_code
def yX1_placeCount : MethodName := ⟨RX1, "placeCount", "()I"⟩
abbrev cX1_takes : ByteArray := prog_3_method_5_code
def yX1_takes : MethodName := ⟨RX1, "takes", "(LFaultBench$Box;)Z"⟩
abbrev cX1_store : ByteArray := prog_3_method_6_code
def yX1_store : MethodName := ⟨RX1, "store", "(ILFaultBench$Box;)V"⟩
abbrev cX1_boxAtPlace : ByteArray := prog_3_method_7_code
def yX1_boxAtPlace : MethodName := ⟨RX1, "boxAtPlace", "(I)LFaultBench$Box;"⟩
def RX2 : String := "FaultBench$Disc"
def TX2 : u_T := fun k => match k with
  | _ => ("FaultBench$Box", "value", "I", false)
def tyX2 : Nat → FieldType := fun k => match k with
  | _ => .int
theorem nmX2 : ∀ a, a < 1 → ∀ b, b < 1 → a ≠ b → (TX2 a).2.1 ≠ (TX2 b).2.1 := by decide +kernel
theorem tyX2_ok : ∀ k, k < 1 → parseFieldDescriptor (TX2 k).2.2.1 = some (tyX2 k) := by decide +kernel
abbrev cX2_init : ByteArray := prog_4_method_1_code
def yX2_init : MethodName := ⟨RX2, "<init>", "(I)V"⟩
abbrev cX2_weightWith : ByteArray := prog_4_method_2_code
def yX2_weightWith : MethodName := ⟨RX2, "weightWith", "(I)I"⟩
abbrev cX2_rolledWith : ByteArray := prog_4_method_3_code
def yX2_rolledWith : MethodName := ⟨RX2, "rolledWith", "(I)I"⟩
def RX3 : String := "FaultBench$Grid"
def TX3 : u_T := fun k => match k with
  | 0 => ("FaultBench$Grid", "cells", "[[I", true)
  | 1 => ("FaultBench$Grid", "made", "Z", false)
  | 2 => ("FaultBench$Grid", "height", "I", false)
  | _ => ("FaultBench$Grid", "width", "I", false)
def tyX3 : Nat → FieldType := fun k => match k with
  | 0 => .array (.array .int)
  | 1 => .boolean
  | 2 => .int
  | _ => .int
theorem nmX3 : ∀ a, a < 4 → ∀ b, b < 4 → a ≠ b → (TX3 a).2.1 ≠ (TX3 b).2.1 := by decide +kernel
theorem tyX3_ok : ∀ k, k < 4 → parseFieldDescriptor (TX3 k).2.2.1 = some (tyX3 k) := by decide +kernel
abbrev cX3_init : ByteArray := prog_5_method_1_code
def yX3_init : MethodName := ⟨RX3, "<init>", "()V"⟩
abbrev cX3_renew : ByteArray := prog_5_method_2_code
def yX3_renew : MethodName := ⟨RX3, "renew", "(II)V"⟩
abbrev cX3_isMade : ByteArray := prog_5_method_3_code
def yX3_isMade : MethodName := ⟨RX3, "isMade", "()Z"⟩
abbrev cX3_rowCount : ByteArray := prog_5_method_4_code
def yX3_rowCount : MethodName := ⟨RX3, "rowCount", "()I"⟩
abbrev cX3_columnCount : ByteArray := prog_5_method_5_code
def yX3_columnCount : MethodName := ⟨RX3, "columnCount", "()I"⟩
abbrev cX3_numberAt : ByteArray := prog_5_method_6_code
def yX3_numberAt : MethodName := ⟨RX3, "numberAt", "(II)I"⟩
def RX4 : String := "FaultBench$Rows"
def TX4 : u_T := fun k => match k with
  | 0 => ("FaultBench$Rows", "lengths", "[I", true)
  | 1 => ("FaultBench$Rows", "ints", "[I", true)
  | 2 => ("FaultBench$Rows", "longs", "[J", true)
  | 3 => ("FaultBench$Rows", "shorts", "[S", true)
  | 4 => ("FaultBench$Rows", "bytes", "[B", true)
  | 5 => ("FaultBench$Rows", "chars", "[C", true)
  | 6 => ("FaultBench$Rows", "booleans", "[Z", true)
  | 7 => ("FaultBench$Rows", "floats", "[F", true)
  | _ => ("FaultBench$Rows", "doubles", "[D", true)
def tyX4 : Nat → FieldType := fun k => match k with
  | 0 => .array .int
  | 1 => .array .int
  | 2 => .array .long
  | 3 => .array .short
  | 4 => .array .byte
  | 5 => .array .char
  | 6 => .array .boolean
  | 7 => .array .float
  | _ => .array .double
theorem nmX4 : ∀ a, a < 9 → ∀ b, b < 9 → a ≠ b → (TX4 a).2.1 ≠ (TX4 b).2.1 := by decide +kernel
theorem tyX4_ok : ∀ k, k < 9 → parseFieldDescriptor (TX4 k).2.2.1 = some (tyX4 k) := by decide +kernel
abbrev cX4_init : ByteArray := prog_6_method_1_code
def yX4_init : MethodName := ⟨RX4, "<init>", "()V"⟩
abbrev cX4_cellCount : ByteArray := prog_6_method_2_code
def yX4_cellCount : MethodName := ⟨RX4, "cellCount", "(I)I"⟩
abbrev cX4_renew : ByteArray := prog_6_method_3_code
def yX4_renew : MethodName := ⟨RX4, "renew", "(II)V"⟩
abbrev cX4_numberAt : ByteArray := prog_6_method_4_code
def yX4_numberAt : MethodName := ⟨RX4, "numberAt", "(II)J"⟩
abbrev cX4_store : ByteArray := prog_6_method_5_code
def yX4_store : MethodName := ⟨RX4, "store", "(III)V"⟩
def RX5 : String := "FaultBench"
def TX5 : u_T := fun k => match k with
  | 0 => ("FaultBench", "rows", "LFaultBench$Rows;", true)
  | 1 => ("FaultBench", "grid", "LFaultBench$Grid;", true)
  | 2 => ("FaultBench", "boxRow", "LFaultBench$BoxRow;", true)
  | 3 => ("FaultBench", "written", "I", false)
  | _ => ("FaultBench", "came", "I", false)
def tyX5 : Nat → FieldType := fun k => match k with
  | 0 => .object "FaultBench$Rows"
  | 1 => .object "FaultBench$Grid"
  | 2 => .object "FaultBench$BoxRow"
  | 3 => .int
  | _ => .int
theorem nmX5 : ∀ a, a < 5 → ∀ b, b < 5 → a ≠ b → (TX5 a).2.1 ≠ (TX5 b).2.1 := by decide +kernel
theorem tyX5_ok : ∀ k, k < 5 → parseFieldDescriptor (TX5 k).2.2.1 = some (tyX5 k) := by decide +kernel
abbrev cX5_init : ByteArray := prog_1_method_1_code
def yX5_init : MethodName := ⟨RX5, "<init>", "()V"⟩
abbrev cX5_read : ByteArray := prog_1_method_2_code
def yX5_read : MethodName := ⟨RX5, "read", "(IZI)J"⟩
abbrev cX5_write : ByteArray := prog_1_method_3_code
def yX5_write : MethodName := ⟨RX5, "write", "(IZII)I"⟩
abbrev cX5_length : ByteArray := prog_1_method_4_code
def yX5_length : MethodName := ⟨RX5, "length", "(IZ)I"⟩
abbrev cX5_make : ByteArray := prog_1_method_5_code
def yX5_make : MethodName := ⟨RX5, "make", "(II)I"⟩
abbrev cX5_grid : ByteArray := prog_1_method_6_code
def yX5_grid : MethodName := ⟨RX5, "grid", "(II)I"⟩
abbrev cX5_cell : ByteArray := prog_1_method_7_code
def yX5_cell : MethodName := ⟨RX5, "cell", "(II)I"⟩
abbrev cX5_boxes : ByteArray := prog_1_method_8_code
def yX5_boxes : MethodName := ⟨RX5, "boxes", "(IZ)I"⟩
abbrev cX5_put : ByteArray := prog_1_method_9_code
def yX5_put : MethodName := ⟨RX5, "put", "(ZIII)I"⟩
abbrev cX5_value : ByteArray := prog_1_method_10_code
def yX5_value : MethodName := ⟨RX5, "value", "(I)I"⟩
abbrev cX5_change : ByteArray := prog_1_method_11_code
def yX5_change : MethodName := ⟨RX5, "change", "(II)I"⟩
abbrev cX5_weigh : ByteArray := prog_1_method_12_code
def yX5_weigh : MethodName := ⟨RX5, "weigh", "(II)I"⟩
abbrev cX5_roll : ByteArray := prog_1_method_13_code
def yX5_roll : MethodName := ⟨RX5, "roll", "(II)I"⟩
abbrev cX5_divide : ByteArray := prog_1_method_14_code
def yX5_divide : MethodName := ⟨RX5, "divide", "(IIZ)I"⟩
abbrev cX5_divideLong : ByteArray := prog_1_method_15_code
def yX5_divideLong : MethodName := ⟨RX5, "divideLong", "(JJZ)J"⟩
abbrev cX5_raise : ByteArray := prog_1_method_16_code
def yX5_raise : MethodName := ⟨RX5, "raise", "(Z)I"⟩
abbrev cX5_kindOf : ByteArray := prog_1_method_17_code
def yX5_kindOf : MethodName := ⟨RX5, "kindOf", "(I)I"⟩
abbrev cX5_needThere : ByteArray := prog_1_method_18_code
def yX5_needThere : MethodName := ⟨RX5, "needThere", "(Z)V"⟩
abbrev cX5_needPlace : ByteArray := prog_1_method_19_code
def yX5_needPlace : MethodName := ⟨RX5, "needPlace", "(II)V"⟩
abbrev cX5_needSize : ByteArray := prog_1_method_20_code
def yX5_needSize : MethodName := ⟨RX5, "needSize", "(I)V"⟩
abbrev cX5_needDivisor : ByteArray := prog_1_method_21_code
def yX5_needDivisor : MethodName := ⟨RX5, "needDivisor", "(J)V"⟩
abbrev cX5_newBox : ByteArray := prog_1_method_22_code
def yX5_newBox : MethodName := ⟨RX5, "newBox", "(II)LFaultBench$Box;"⟩
abbrev cX5_boxAt : ByteArray := prog_1_method_23_code
def yX5_boxAt : MethodName := ⟨RX5, "boxAt", "(I)LFaultBench$Box;"⟩
def RX6 : String := "FaultBenchModel"
def TX6 : u_T := fun k => match k with
  | 0 => ("FaultBenchModel", "thrown", "I", false)
  | 1 => ("FaultBenchModel", "rows", "[J", true)
  | 2 => ("FaultBenchModel", "lengths", "[I", true)
  | 3 => ("FaultBenchModel", "written", "I", false)
  | 4 => ("FaultBenchModel", "gridThere", "Z", false)
  | 5 => ("FaultBenchModel", "gridRows", "I", false)
  | 6 => ("FaultBenchModel", "gridCells", "I", false)
  | 7 => ("FaultBenchModel", "boxesThere", "Z", false)
  | 8 => ("FaultBenchModel", "discsAlone", "Z", false)
  | 9 => ("FaultBenchModel", "places", "I", false)
  | 10 => ("FaultBenchModel", "came", "I", false)
  | 11 => ("FaultBenchModel", "sort", "[I", true)
  | _ => ("FaultBenchModel", "values", "[I", true)
def tyX6 : Nat → FieldType := fun k => match k with
  | 0 => .int
  | 1 => .array .long
  | 2 => .array .int
  | 3 => .int
  | 4 => .boolean
  | 5 => .int
  | 6 => .int
  | 7 => .boolean
  | 8 => .boolean
  | 9 => .int
  | 10 => .int
  | 11 => .array .int
  | _ => .array .int
theorem nmX6 : ∀ a, a < 13 → ∀ b, b < 13 → a ≠ b → (TX6 a).2.1 ≠ (TX6 b).2.1 := by decide +kernel
theorem tyX6_ok : ∀ k, k < 13 → parseFieldDescriptor (TX6 k).2.2.1 = some (tyX6 k) := by decide +kernel
abbrev cX6_init : ByteArray := prog_8_method_1_code
def yX6_init : MethodName := ⟨RX6, "<init>", "()V"⟩
abbrev cX6_thrown : ByteArray := prog_8_method_2_code
def yX6_thrown : MethodName := ⟨RX6, "thrown", "()I"⟩
abbrev cX6_fails : ByteArray := prog_8_method_3_code
def yX6_fails : MethodName := ⟨RX6, "fails", "(I)I"⟩
abbrev cX6_nearest : ByteArray := prog_8_method_4_code
def yX6_nearest : MethodName := ⟨RX6, "nearest", "(I)J"⟩
abbrev cX6_kept : ByteArray := prog_8_method_5_code
def yX6_kept : MethodName := ⟨RX6, "kept", "(II)J"⟩
abbrev cX6_read : ByteArray := prog_8_method_6_code
def yX6_read : MethodName := ⟨RX6, "read", "(IZI)J"⟩
abbrev cX6_write : ByteArray := prog_8_method_7_code
def yX6_write : MethodName := ⟨RX6, "write", "(IZII)I"⟩
abbrev cX6_length : ByteArray := prog_8_method_8_code
def yX6_length : MethodName := ⟨RX6, "length", "(IZ)I"⟩
abbrev cX6_make : ByteArray := prog_8_method_9_code
def yX6_make : MethodName := ⟨RX6, "make", "(II)I"⟩
abbrev cX6_grid : ByteArray := prog_8_method_10_code
def yX6_grid : MethodName := ⟨RX6, "grid", "(II)I"⟩
abbrev cX6_cell : ByteArray := prog_8_method_11_code
def yX6_cell : MethodName := ⟨RX6, "cell", "(II)I"⟩
abbrev cX6_boxes : ByteArray := prog_8_method_12_code
def yX6_boxes : MethodName := ⟨RX6, "boxes", "(IZ)I"⟩
abbrev cX6_put : ByteArray := prog_8_method_13_code
def yX6_put : MethodName := ⟨RX6, "put", "(ZIII)I"⟩
abbrev cX6_isThere : ByteArray := prog_8_method_14_code
def yX6_isThere : MethodName := ⟨RX6, "isThere", "(I)Z"⟩
abbrev cX6_value : ByteArray := prog_8_method_15_code
def yX6_value : MethodName := ⟨RX6, "value", "(I)I"⟩
abbrev cX6_change : ByteArray := prog_8_method_16_code
def yX6_change : MethodName := ⟨RX6, "change", "(II)I"⟩
abbrev cX6_weigh : ByteArray := prog_8_method_17_code
def yX6_weigh : MethodName := ⟨RX6, "weigh", "(II)I"⟩
abbrev cX6_roll : ByteArray := prog_8_method_18_code
def yX6_roll : MethodName := ⟨RX6, "roll", "(II)I"⟩
abbrev cX6_divide : ByteArray := prog_8_method_19_code
def yX6_divide : MethodName := ⟨RX6, "divide", "(IIZ)I"⟩
abbrev cX6_divideLong : ByteArray := prog_8_method_20_code
def yX6_divideLong : MethodName := ⟨RX6, "divideLong", "(JJZ)J"⟩
abbrev cX6_raise : ByteArray := prog_8_method_21_code
def yX6_raise : MethodName := ⟨RX6, "raise", "(Z)I"⟩
def RL : String := "FaultBenchLaw"
abbrev cL_read : ByteArray := method_3_code
def yL_read : MethodName := ⟨RL, "read", "(LFaultBench;IZI[J)I"⟩
abbrev cL_write : ByteArray := method_4_code
def yL_write : MethodName := ⟨RL, "write", "(LFaultBench;IZII[J)I"⟩
abbrev cL_length : ByteArray := method_5_code
def yL_length : MethodName := ⟨RL, "length", "(LFaultBench;IZ[J)I"⟩
abbrev cL_make : ByteArray := method_6_code
def yL_make : MethodName := ⟨RL, "make", "(LFaultBench;II[J)I"⟩
abbrev cL_grid : ByteArray := method_7_code
def yL_grid : MethodName := ⟨RL, "grid", "(LFaultBench;II[J)I"⟩
abbrev cL_cell : ByteArray := method_8_code
def yL_cell : MethodName := ⟨RL, "cell", "(LFaultBench;II[J)I"⟩
abbrev cL_boxes : ByteArray := method_9_code
def yL_boxes : MethodName := ⟨RL, "boxes", "(LFaultBench;IZ[J)I"⟩
abbrev cL_put : ByteArray := method_10_code
def yL_put : MethodName := ⟨RL, "put", "(LFaultBench;ZIII[J)I"⟩
abbrev cL_value : ByteArray := method_11_code
def yL_value : MethodName := ⟨RL, "value", "(LFaultBench;I[J)I"⟩
abbrev cL_change : ByteArray := method_12_code
def yL_change : MethodName := ⟨RL, "change", "(LFaultBench;II[J)I"⟩
abbrev cL_weigh : ByteArray := method_13_code
def yL_weigh : MethodName := ⟨RL, "weigh", "(LFaultBench;II[J)I"⟩
abbrev cL_roll : ByteArray := method_14_code
def yL_roll : MethodName := ⟨RL, "roll", "(LFaultBench;II[J)I"⟩
abbrev cL_divide : ByteArray := method_15_code
def yL_divide : MethodName := ⟨RL, "divide", "(LFaultBench;IIZ[J)I"⟩
abbrev cL_divideLong : ByteArray := method_16_code
def yL_divideLong : MethodName := ⟨RL, "divideLong", "(LFaultBench;JJZ[J)I"⟩
abbrev cL_raise : ByteArray := method_17_code
def yL_raise : MethodName := ⟨RL, "raise", "(LFaultBench;Z[J)I"⟩
abbrev cL_law : ByteArray := code
def yL_law : MethodName := ⟨RL, "law", "([I)Z"⟩
abbrev vwCl : List vw_C := [(RX0, TX0, 1), (RX1, TX1, 4), (RX2, TX2, 1), (RX3, TX3, 4), (RX4, TX4, 9), (RX5, TX5, 5), (RX6, TX6, 13)]
end
section
theorem dX0_init_0 : decode cX0_init 0 = .ok (.aload_n 0, 1) := by decide +kernel
theorem dX0_init_1 : decode cX0_init 1 = .ok (.invokespecial 1, 3) := by decide +kernel
theorem dX0_init_4 : decode cX0_init 4 = .ok (.aload_n 0, 1) := by decide +kernel
theorem dX0_init_5 : decode cX0_init 5 = .ok (.iload_n 1, 1) := by decide +kernel
theorem dX0_init_6 : decode cX0_init 6 = .ok (.putfield 7, 3) := by decide +kernel
theorem dX0_init_9 : decode cX0_init 9 = .ok (.return_, 1) := by decide +kernel
theorem dX0_weightWith_0 : decode cX0_weightWith 0 = .ok (.aload_n 0, 1) := by decide +kernel
theorem dX0_weightWith_1 : decode cX0_weightWith 1 = .ok (.getfield 7, 3) := by decide +kernel
theorem dX0_weightWith_4 : decode cX0_weightWith 4 = .ok (.iconst 3, 1) := by decide +kernel
theorem dX0_weightWith_5 : decode cX0_weightWith 5 = .ok (.imul, 1) := by decide +kernel
theorem dX0_weightWith_6 : decode cX0_weightWith 6 = .ok (.iload_n 1, 1) := by decide +kernel
theorem dX0_weightWith_7 : decode cX0_weightWith 7 = .ok (.iadd, 1) := by decide +kernel
theorem dX0_weightWith_8 : decode cX0_weightWith 8 = .ok (.ireturn, 1) := by decide +kernel
theorem dX1_init_0 : decode cX1_init 0 = .ok (.aload_n 0, 1) := by decide +kernel
theorem dX1_init_1 : decode cX1_init 1 = .ok (.invokespecial 3, 3) := by decide +kernel
theorem dX1_init_4 : decode cX1_init 4 = .ok (.aload_n 0, 1) := by decide +kernel
theorem dX1_init_5 : decode cX1_init 5 = .ok (.bipush 19, 2) := by decide +kernel
theorem dX1_init_7 : decode cX1_init 7 = .ok (.anewarray 9, 3) := by decide +kernel
theorem dX1_init_10 : decode cX1_init 10 = .ok (.putfield 11, 3) := by decide +kernel
theorem dX1_init_13 : decode cX1_init 13 = .ok (.aload_n 0, 1) := by decide +kernel
theorem dX1_init_14 : decode cX1_init 14 = .ok (.iconst 0, 1) := by decide +kernel
theorem dX1_init_15 : decode cX1_init 15 = .ok (.putfield 17, 3) := by decide +kernel
theorem dX1_init_18 : decode cX1_init 18 = .ok (.aload_n 0, 1) := by decide +kernel
theorem dX1_init_19 : decode cX1_init 19 = .ok (.iconst 0, 1) := by decide +kernel
theorem dX1_init_20 : decode cX1_init 20 = .ok (.putfield 21, 3) := by decide +kernel
theorem dX1_init_23 : decode cX1_init 23 = .ok (.aload_n 0, 1) := by decide +kernel
theorem dX1_init_24 : decode cX1_init 24 = .ok (.iconst 0, 1) := by decide +kernel
theorem dX1_init_25 : decode cX1_init 25 = .ok (.putfield 24, 3) := by decide +kernel
theorem dX1_init_28 : decode cX1_init 28 = .ok (.return_, 1) := by decide +kernel
theorem dX1_renew_0 : decode cX1_renew 0 = .ok (.iconst 0, 1) := by decide +kernel
theorem dX1_renew_1 : decode cX1_renew 1 = .ok (.istore_n 3, 1) := by decide +kernel
theorem dX1_renew_2 : decode cX1_renew 2 = .ok (.iload_n 3, 1) := by decide +kernel
theorem dX1_renew_3 : decode cX1_renew 3 = .ok (.iload_n 1, 1) := by decide +kernel
theorem dX1_renew_4 : decode cX1_renew 4 = .ok (.if_icmp .ge 16, 3) := by decide +kernel
theorem dX1_renew_7 : decode cX1_renew 7 = .ok (.aload_n 0, 1) := by decide +kernel
theorem dX1_renew_8 : decode cX1_renew 8 = .ok (.getfield 11, 3) := by decide +kernel
theorem dX1_renew_11 : decode cX1_renew 11 = .ok (.iload_n 3, 1) := by decide +kernel
theorem dX1_renew_12 : decode cX1_renew 12 = .ok (.aconst_null, 1) := by decide +kernel
theorem dX1_renew_13 : decode cX1_renew 13 = .ok (.aastore, 1) := by decide +kernel
theorem dX1_renew_14 : decode cX1_renew 14 = .ok (.iinc 3 1, 3) := by decide +kernel
theorem dX1_renew_17 : decode cX1_renew 17 = .ok (.goto (-15), 3) := by decide +kernel
theorem dX1_renew_20 : decode cX1_renew 20 = .ok (.aload_n 0, 1) := by decide +kernel
theorem dX1_renew_21 : decode cX1_renew 21 = .ok (.iconst 1, 1) := by decide +kernel
theorem dX1_renew_22 : decode cX1_renew 22 = .ok (.putfield 17, 3) := by decide +kernel
theorem dX1_renew_25 : decode cX1_renew 25 = .ok (.aload_n 0, 1) := by decide +kernel
theorem dX1_renew_26 : decode cX1_renew 26 = .ok (.iload_n 2, 1) := by decide +kernel
theorem dX1_renew_27 : decode cX1_renew 27 = .ok (.putfield 21, 3) := by decide +kernel
theorem dX1_renew_30 : decode cX1_renew 30 = .ok (.aload_n 0, 1) := by decide +kernel
theorem dX1_renew_31 : decode cX1_renew 31 = .ok (.iload_n 1, 1) := by decide +kernel
theorem dX1_renew_32 : decode cX1_renew 32 = .ok (.putfield 24, 3) := by decide +kernel
theorem dX1_renew_35 : decode cX1_renew 35 = .ok (.return_, 1) := by decide +kernel
theorem dX1_isMade_0 : decode cX1_isMade 0 = .ok (.aload_n 0, 1) := by decide +kernel
theorem dX1_isMade_1 : decode cX1_isMade 1 = .ok (.getfield 17, 3) := by decide +kernel
theorem dX1_isMade_4 : decode cX1_isMade 4 = .ok (.ireturn, 1) := by decide +kernel
theorem dX1_placeCount_0 : decode cX1_placeCount 0 = .ok (.aload_n 0, 1) := by decide +kernel
theorem dX1_placeCount_1 : decode cX1_placeCount 1 = .ok (.getfield 24, 3) := by decide +kernel
theorem dX1_placeCount_4 : decode cX1_placeCount 4 = .ok (.ireturn, 1) := by decide +kernel
theorem dX1_takes_0 : decode cX1_takes 0 = .ok (.aload_n 1, 1) := by decide +kernel
theorem dX1_takes_1 : decode cX1_takes 1 = .ok (.ifnull 17, 3) := by decide +kernel
theorem dX1_takes_4 : decode cX1_takes 4 = .ok (.aload_n 0, 1) := by decide +kernel
theorem dX1_takes_5 : decode cX1_takes 5 = .ok (.getfield 21, 3) := by decide +kernel
theorem dX1_takes_8 : decode cX1_takes 8 = .ok (.ifCond .eq 10, 3) := by decide +kernel
theorem dX1_takes_11 : decode cX1_takes 11 = .ok (.aload_n 1, 1) := by decide +kernel
theorem dX1_takes_12 : decode cX1_takes 12 = .ok (.instanceof 28, 3) := by decide +kernel
theorem dX1_takes_15 : decode cX1_takes 15 = .ok (.ifCond .eq 7, 3) := by decide +kernel
theorem dX1_takes_18 : decode cX1_takes 18 = .ok (.iconst 1, 1) := by decide +kernel
theorem dX1_takes_19 : decode cX1_takes 19 = .ok (.goto 4, 3) := by decide +kernel
theorem dX1_takes_22 : decode cX1_takes 22 = .ok (.iconst 0, 1) := by decide +kernel
theorem dX1_takes_23 : decode cX1_takes 23 = .ok (.ireturn, 1) := by decide +kernel
theorem dX1_store_0 : decode cX1_store 0 = .ok (.aload_n 0, 1) := by decide +kernel
theorem dX1_store_1 : decode cX1_store 1 = .ok (.getfield 11, 3) := by decide +kernel
theorem dX1_store_4 : decode cX1_store 4 = .ok (.iload_n 1, 1) := by decide +kernel
theorem dX1_store_5 : decode cX1_store 5 = .ok (.aload_n 2, 1) := by decide +kernel
theorem dX1_store_6 : decode cX1_store 6 = .ok (.aastore, 1) := by decide +kernel
theorem dX1_store_7 : decode cX1_store 7 = .ok (.return_, 1) := by decide +kernel
theorem dX1_boxAtPlace_0 : decode cX1_boxAtPlace 0 = .ok (.aload_n 0, 1) := by decide +kernel
theorem dX1_boxAtPlace_1 : decode cX1_boxAtPlace 1 = .ok (.getfield 11, 3) := by decide +kernel
theorem dX1_boxAtPlace_4 : decode cX1_boxAtPlace 4 = .ok (.iload_n 1, 1) := by decide +kernel
theorem dX1_boxAtPlace_5 : decode cX1_boxAtPlace 5 = .ok (.aaload, 1) := by decide +kernel
theorem dX1_boxAtPlace_6 : decode cX1_boxAtPlace 6 = .ok (.areturn, 1) := by decide +kernel
theorem dX2_init_0 : decode cX2_init 0 = .ok (.aload_n 0, 1) := by decide +kernel
theorem dX2_init_1 : decode cX2_init 1 = .ok (.iload_n 1, 1) := by decide +kernel
theorem dX2_init_2 : decode cX2_init 2 = .ok (.invokespecial 1, 3) := by decide +kernel
theorem dX2_init_5 : decode cX2_init 5 = .ok (.return_, 1) := by decide +kernel
theorem dX2_weightWith_0 : decode cX2_weightWith 0 = .ok (.aload_n 0, 1) := by decide +kernel
theorem dX2_weightWith_1 : decode cX2_weightWith 1 = .ok (.getfield 7, 3) := by decide +kernel
theorem dX2_weightWith_4 : decode cX2_weightWith 4 = .ok (.iconst 5, 1) := by decide +kernel
theorem dX2_weightWith_5 : decode cX2_weightWith 5 = .ok (.imul, 1) := by decide +kernel
theorem dX2_weightWith_6 : decode cX2_weightWith 6 = .ok (.iload_n 1, 1) := by decide +kernel
theorem dX2_weightWith_7 : decode cX2_weightWith 7 = .ok (.isub, 1) := by decide +kernel
theorem dX2_weightWith_8 : decode cX2_weightWith 8 = .ok (.ireturn, 1) := by decide +kernel
theorem dX2_rolledWith_0 : decode cX2_rolledWith 0 = .ok (.aload_n 0, 1) := by decide +kernel
theorem dX2_rolledWith_1 : decode cX2_rolledWith 1 = .ok (.getfield 7, 3) := by decide +kernel
theorem dX2_rolledWith_4 : decode cX2_rolledWith 4 = .ok (.iload_n 1, 1) := by decide +kernel
theorem dX2_rolledWith_5 : decode cX2_rolledWith 5 = .ok (.ixor, 1) := by decide +kernel
theorem dX2_rolledWith_6 : decode cX2_rolledWith 6 = .ok (.ireturn, 1) := by decide +kernel
theorem dX3_init_0 : decode cX3_init 0 = .ok (.aload_n 0, 1) := by decide +kernel
theorem dX3_init_1 : decode cX3_init 1 = .ok (.invokespecial 3, 3) := by decide +kernel
theorem dX3_init_4 : decode cX3_init 4 = .ok (.aload_n 0, 1) := by decide +kernel
theorem dX3_init_5 : decode cX3_init 5 = .ok (.bipush 8, 2) := by decide +kernel
theorem dX3_init_7 : decode cX3_init 7 = .ok (.bipush 8, 2) := by decide +kernel
theorem dX3_init_9 : decode cX3_init 9 = .ok (.multianewarray 11 2, 4) := by decide +kernel
theorem dX3_init_13 : decode cX3_init 13 = .ok (.putfield 13, 3) := by decide +kernel
theorem dX3_init_16 : decode cX3_init 16 = .ok (.aload_n 0, 1) := by decide +kernel
theorem dX3_init_17 : decode cX3_init 17 = .ok (.iconst 0, 1) := by decide +kernel
theorem dX3_init_18 : decode cX3_init 18 = .ok (.putfield 16, 3) := by decide +kernel
theorem dX3_init_21 : decode cX3_init 21 = .ok (.aload_n 0, 1) := by decide +kernel
theorem dX3_init_22 : decode cX3_init 22 = .ok (.iconst 0, 1) := by decide +kernel
theorem dX3_init_23 : decode cX3_init 23 = .ok (.putfield 20, 3) := by decide +kernel
theorem dX3_init_26 : decode cX3_init 26 = .ok (.aload_n 0, 1) := by decide +kernel
theorem dX3_init_27 : decode cX3_init 27 = .ok (.iconst 0, 1) := by decide +kernel
theorem dX3_init_28 : decode cX3_init 28 = .ok (.putfield 24, 3) := by decide +kernel
theorem dX3_init_31 : decode cX3_init 31 = .ok (.iconst 0, 1) := by decide +kernel
theorem dX3_init_32 : decode cX3_init 32 = .ok (.istore_n 1, 1) := by decide +kernel
theorem dX3_init_33 : decode cX3_init 33 = .ok (.iload_n 1, 1) := by decide +kernel
theorem dX3_init_34 : decode cX3_init 34 = .ok (.bipush 8, 2) := by decide +kernel
theorem dX3_init_36 : decode cX3_init 36 = .ok (.if_icmp .ge 37, 3) := by decide +kernel
theorem dX3_init_39 : decode cX3_init 39 = .ok (.iconst 0, 1) := by decide +kernel
theorem dX3_init_40 : decode cX3_init 40 = .ok (.istore_n 2, 1) := by decide +kernel
theorem dX3_init_41 : decode cX3_init 41 = .ok (.iload_n 2, 1) := by decide +kernel
theorem dX3_init_42 : decode cX3_init 42 = .ok (.bipush 8, 2) := by decide +kernel
theorem dX3_init_44 : decode cX3_init 44 = .ok (.if_icmp .ge 23, 3) := by decide +kernel
theorem dX3_init_47 : decode cX3_init 47 = .ok (.aload_n 0, 1) := by decide +kernel
theorem dX3_init_48 : decode cX3_init 48 = .ok (.getfield 13, 3) := by decide +kernel
theorem dX3_init_51 : decode cX3_init 51 = .ok (.iload_n 1, 1) := by decide +kernel
theorem dX3_init_52 : decode cX3_init 52 = .ok (.aaload, 1) := by decide +kernel
theorem dX3_init_53 : decode cX3_init 53 = .ok (.iload_n 2, 1) := by decide +kernel
theorem dX3_init_54 : decode cX3_init 54 = .ok (.bipush 10, 2) := by decide +kernel
theorem dX3_init_56 : decode cX3_init 56 = .ok (.iload_n 1, 1) := by decide +kernel
theorem dX3_init_57 : decode cX3_init 57 = .ok (.imul, 1) := by decide +kernel
theorem dX3_init_58 : decode cX3_init 58 = .ok (.iload_n 2, 1) := by decide +kernel
theorem dX3_init_59 : decode cX3_init 59 = .ok (.iadd, 1) := by decide +kernel
theorem dX3_init_60 : decode cX3_init 60 = .ok (.iastore, 1) := by decide +kernel
theorem dX3_init_61 : decode cX3_init 61 = .ok (.iinc 2 1, 3) := by decide +kernel
theorem dX3_init_64 : decode cX3_init 64 = .ok (.goto (-23), 3) := by decide +kernel
theorem dX3_init_67 : decode cX3_init 67 = .ok (.iinc 1 1, 3) := by decide +kernel
theorem dX3_init_70 : decode cX3_init 70 = .ok (.goto (-37), 3) := by decide +kernel
theorem dX3_init_73 : decode cX3_init 73 = .ok (.return_, 1) := by decide +kernel
theorem dX3_renew_0 : decode cX3_renew 0 = .ok (.aload_n 0, 1) := by decide +kernel
theorem dX3_renew_1 : decode cX3_renew 1 = .ok (.iconst 1, 1) := by decide +kernel
theorem dX3_renew_2 : decode cX3_renew 2 = .ok (.putfield 16, 3) := by decide +kernel
theorem dX3_renew_5 : decode cX3_renew 5 = .ok (.aload_n 0, 1) := by decide +kernel
theorem dX3_renew_6 : decode cX3_renew 6 = .ok (.iload_n 1, 1) := by decide +kernel
theorem dX3_renew_7 : decode cX3_renew 7 = .ok (.putfield 20, 3) := by decide +kernel
theorem dX3_renew_10 : decode cX3_renew 10 = .ok (.aload_n 0, 1) := by decide +kernel
theorem dX3_renew_11 : decode cX3_renew 11 = .ok (.iload_n 2, 1) := by decide +kernel
theorem dX3_renew_12 : decode cX3_renew 12 = .ok (.putfield 24, 3) := by decide +kernel
theorem dX3_renew_15 : decode cX3_renew 15 = .ok (.return_, 1) := by decide +kernel
theorem dX3_isMade_0 : decode cX3_isMade 0 = .ok (.aload_n 0, 1) := by decide +kernel
theorem dX3_isMade_1 : decode cX3_isMade 1 = .ok (.getfield 16, 3) := by decide +kernel
theorem dX3_isMade_4 : decode cX3_isMade 4 = .ok (.ireturn, 1) := by decide +kernel
theorem dX3_rowCount_0 : decode cX3_rowCount 0 = .ok (.aload_n 0, 1) := by decide +kernel
theorem dX3_rowCount_1 : decode cX3_rowCount 1 = .ok (.getfield 20, 3) := by decide +kernel
theorem dX3_rowCount_4 : decode cX3_rowCount 4 = .ok (.ireturn, 1) := by decide +kernel
theorem dX3_columnCount_0 : decode cX3_columnCount 0 = .ok (.aload_n 0, 1) := by decide +kernel
theorem dX3_columnCount_1 : decode cX3_columnCount 1 = .ok (.getfield 24, 3) := by decide +kernel
theorem dX3_columnCount_4 : decode cX3_columnCount 4 = .ok (.ireturn, 1) := by decide +kernel
theorem dX3_numberAt_0 : decode cX3_numberAt 0 = .ok (.aload_n 0, 1) := by decide +kernel
theorem dX3_numberAt_1 : decode cX3_numberAt 1 = .ok (.getfield 13, 3) := by decide +kernel
theorem dX3_numberAt_4 : decode cX3_numberAt 4 = .ok (.iload_n 1, 1) := by decide +kernel
theorem dX3_numberAt_5 : decode cX3_numberAt 5 = .ok (.aaload, 1) := by decide +kernel
theorem dX3_numberAt_6 : decode cX3_numberAt 6 = .ok (.iload_n 2, 1) := by decide +kernel
theorem dX3_numberAt_7 : decode cX3_numberAt 7 = .ok (.iaload, 1) := by decide +kernel
theorem dX3_numberAt_8 : decode cX3_numberAt 8 = .ok (.ireturn, 1) := by decide +kernel
theorem dX4_init_0 : decode cX4_init 0 = .ok (.aload_n 0, 1) := by decide +kernel
theorem dX4_init_1 : decode cX4_init 1 = .ok (.invokespecial 3, 3) := by decide +kernel
theorem dX4_init_4 : decode cX4_init 4 = .ok (.aload_n 0, 1) := by decide +kernel
theorem dX4_init_5 : decode cX4_init 5 = .ok (.bipush 8, 2) := by decide +kernel
theorem dX4_init_7 : decode cX4_init 7 = .ok (.newarray .int, 2) := by decide +kernel
theorem dX4_init_9 : decode cX4_init 9 = .ok (.putfield 9, 3) := by decide +kernel
theorem dX4_init_12 : decode cX4_init 12 = .ok (.aload_n 0, 1) := by decide +kernel
theorem dX4_init_13 : decode cX4_init 13 = .ok (.bipush 39, 2) := by decide +kernel
theorem dX4_init_15 : decode cX4_init 15 = .ok (.newarray .int, 2) := by decide +kernel
theorem dX4_init_17 : decode cX4_init 17 = .ok (.putfield 15, 3) := by decide +kernel
theorem dX4_init_20 : decode cX4_init 20 = .ok (.aload_n 0, 1) := by decide +kernel
theorem dX4_init_21 : decode cX4_init 21 = .ok (.bipush 39, 2) := by decide +kernel
theorem dX4_init_23 : decode cX4_init 23 = .ok (.newarray .long, 2) := by decide +kernel
theorem dX4_init_25 : decode cX4_init 25 = .ok (.putfield 18, 3) := by decide +kernel
theorem dX4_init_28 : decode cX4_init 28 = .ok (.aload_n 0, 1) := by decide +kernel
theorem dX4_init_29 : decode cX4_init 29 = .ok (.bipush 39, 2) := by decide +kernel
theorem dX4_init_31 : decode cX4_init 31 = .ok (.newarray .short, 2) := by decide +kernel
theorem dX4_init_33 : decode cX4_init 33 = .ok (.putfield 22, 3) := by decide +kernel
theorem dX4_init_36 : decode cX4_init 36 = .ok (.aload_n 0, 1) := by decide +kernel
theorem dX4_init_37 : decode cX4_init 37 = .ok (.bipush 39, 2) := by decide +kernel
theorem dX4_init_39 : decode cX4_init 39 = .ok (.newarray .byte, 2) := by decide +kernel
theorem dX4_init_41 : decode cX4_init 41 = .ok (.putfield 26, 3) := by decide +kernel
theorem dX4_init_44 : decode cX4_init 44 = .ok (.aload_n 0, 1) := by decide +kernel
theorem dX4_init_45 : decode cX4_init 45 = .ok (.bipush 39, 2) := by decide +kernel
theorem dX4_init_47 : decode cX4_init 47 = .ok (.newarray .char, 2) := by decide +kernel
theorem dX4_init_49 : decode cX4_init 49 = .ok (.putfield 30, 3) := by decide +kernel
theorem dX4_init_52 : decode cX4_init 52 = .ok (.aload_n 0, 1) := by decide +kernel
theorem dX4_init_53 : decode cX4_init 53 = .ok (.bipush 39, 2) := by decide +kernel
theorem dX4_init_55 : decode cX4_init 55 = .ok (.newarray .boolean, 2) := by decide +kernel
theorem dX4_init_57 : decode cX4_init 57 = .ok (.putfield 34, 3) := by decide +kernel
theorem dX4_init_60 : decode cX4_init 60 = .ok (.aload_n 0, 1) := by decide +kernel
theorem dX4_init_61 : decode cX4_init 61 = .ok (.bipush 39, 2) := by decide +kernel
theorem dX4_init_63 : decode cX4_init 63 = .ok (.newarray .float, 2) := by decide +kernel
theorem dX4_init_65 : decode cX4_init 65 = .ok (.putfield 38, 3) := by decide +kernel
theorem dX4_init_68 : decode cX4_init 68 = .ok (.aload_n 0, 1) := by decide +kernel
theorem dX4_init_69 : decode cX4_init 69 = .ok (.bipush 39, 2) := by decide +kernel
theorem dX4_init_71 : decode cX4_init 71 = .ok (.newarray .double, 2) := by decide +kernel
theorem dX4_init_73 : decode cX4_init 73 = .ok (.putfield 42, 3) := by decide +kernel
theorem dX4_init_76 : decode cX4_init 76 = .ok (.iconst 0, 1) := by decide +kernel
theorem dX4_init_77 : decode cX4_init 77 = .ok (.istore_n 1, 1) := by decide +kernel
theorem dX4_init_78 : decode cX4_init 78 = .ok (.iload_n 1, 1) := by decide +kernel
theorem dX4_init_79 : decode cX4_init 79 = .ok (.bipush 8, 2) := by decide +kernel
theorem dX4_init_81 : decode cX4_init 81 = .ok (.if_icmp .ge 16, 3) := by decide +kernel
theorem dX4_init_84 : decode cX4_init 84 = .ok (.aload_n 0, 1) := by decide +kernel
theorem dX4_init_85 : decode cX4_init 85 = .ok (.getfield 9, 3) := by decide +kernel
theorem dX4_init_88 : decode cX4_init 88 = .ok (.iload_n 1, 1) := by decide +kernel
theorem dX4_init_89 : decode cX4_init 89 = .ok (.iconst 3, 1) := by decide +kernel
theorem dX4_init_90 : decode cX4_init 90 = .ok (.iastore, 1) := by decide +kernel
theorem dX4_init_91 : decode cX4_init 91 = .ok (.iinc 1 1, 3) := by decide +kernel
theorem dX4_init_94 : decode cX4_init 94 = .ok (.goto (-16), 3) := by decide +kernel
theorem dX4_init_97 : decode cX4_init 97 = .ok (.return_, 1) := by decide +kernel
theorem dX4_cellCount_0 : decode cX4_cellCount 0 = .ok (.aload_n 0, 1) := by decide +kernel
theorem dX4_cellCount_1 : decode cX4_cellCount 1 = .ok (.getfield 9, 3) := by decide +kernel
theorem dX4_cellCount_4 : decode cX4_cellCount 4 = .ok (.iload_n 1, 1) := by decide +kernel
theorem dX4_cellCount_5 : decode cX4_cellCount 5 = .ok (.iaload, 1) := by decide +kernel
theorem dX4_cellCount_6 : decode cX4_cellCount 6 = .ok (.ireturn, 1) := by decide +kernel
theorem dX4_renew_0 : decode cX4_renew 0 = .ok (.iconst 0, 1) := by decide +kernel
theorem dX4_renew_1 : decode cX4_renew 1 = .ok (.istore_n 3, 1) := by decide +kernel
theorem dX4_renew_2 : decode cX4_renew 2 = .ok (.iload_n 3, 1) := by decide +kernel
theorem dX4_renew_3 : decode cX4_renew 3 = .ok (.iload_n 2, 1) := by decide +kernel
theorem dX4_renew_4 : decode cX4_renew 4 = .ok (.if_icmp .ge 16, 3) := by decide +kernel
theorem dX4_renew_7 : decode cX4_renew 7 = .ok (.aload_n 0, 1) := by decide +kernel
theorem dX4_renew_8 : decode cX4_renew 8 = .ok (.iload_n 1, 1) := by decide +kernel
theorem dX4_renew_9 : decode cX4_renew 9 = .ok (.iload_n 3, 1) := by decide +kernel
theorem dX4_renew_10 : decode cX4_renew 10 = .ok (.iconst 0, 1) := by decide +kernel
theorem dX4_renew_11 : decode cX4_renew 11 = .ok (.invokevirtual 46, 3) := by decide +kernel
theorem dX4_renew_14 : decode cX4_renew 14 = .ok (.iinc 3 1, 3) := by decide +kernel
theorem dX4_renew_17 : decode cX4_renew 17 = .ok (.goto (-15), 3) := by decide +kernel
theorem dX4_renew_20 : decode cX4_renew 20 = .ok (.aload_n 0, 1) := by decide +kernel
theorem dX4_renew_21 : decode cX4_renew 21 = .ok (.getfield 9, 3) := by decide +kernel
theorem dX4_renew_24 : decode cX4_renew 24 = .ok (.iload_n 1, 1) := by decide +kernel
theorem dX4_renew_25 : decode cX4_renew 25 = .ok (.iload_n 2, 1) := by decide +kernel
theorem dX4_renew_26 : decode cX4_renew 26 = .ok (.iastore, 1) := by decide +kernel
theorem dX4_renew_27 : decode cX4_renew 27 = .ok (.return_, 1) := by decide +kernel
theorem dX4_numberAt_0 : decode cX4_numberAt 0 = .ok (.iload_n 1, 1) := by decide +kernel
theorem dX4_numberAt_1 : decode cX4_numberAt 1 = .ok (.tableswitch 119 0 6 #[43, 53, 62, 72, 82, 92, 109], 43) := by decide +kernel
theorem dX4_numberAt_44 : decode cX4_numberAt 44 = .ok (.aload_n 0, 1) := by decide +kernel
theorem dX4_numberAt_45 : decode cX4_numberAt 45 = .ok (.getfield 15, 3) := by decide +kernel
theorem dX4_numberAt_48 : decode cX4_numberAt 48 = .ok (.iload_n 2, 1) := by decide +kernel
theorem dX4_numberAt_49 : decode cX4_numberAt 49 = .ok (.iaload, 1) := by decide +kernel
theorem dX4_numberAt_50 : decode cX4_numberAt 50 = .ok (.i2l, 1) := by decide +kernel
theorem dX4_numberAt_51 : decode cX4_numberAt 51 = .ok (.goto 76, 3) := by decide +kernel
theorem dX4_numberAt_54 : decode cX4_numberAt 54 = .ok (.aload_n 0, 1) := by decide +kernel
theorem dX4_numberAt_55 : decode cX4_numberAt 55 = .ok (.getfield 18, 3) := by decide +kernel
theorem dX4_numberAt_58 : decode cX4_numberAt 58 = .ok (.iload_n 2, 1) := by decide +kernel
theorem dX4_numberAt_59 : decode cX4_numberAt 59 = .ok (.laload, 1) := by decide +kernel
theorem dX4_numberAt_60 : decode cX4_numberAt 60 = .ok (.goto 67, 3) := by decide +kernel
theorem dX4_numberAt_63 : decode cX4_numberAt 63 = .ok (.aload_n 0, 1) := by decide +kernel
theorem dX4_numberAt_64 : decode cX4_numberAt 64 = .ok (.getfield 22, 3) := by decide +kernel
theorem dX4_numberAt_67 : decode cX4_numberAt 67 = .ok (.iload_n 2, 1) := by decide +kernel
theorem dX4_numberAt_68 : decode cX4_numberAt 68 = .ok (.saload, 1) := by decide +kernel
theorem dX4_numberAt_69 : decode cX4_numberAt 69 = .ok (.i2l, 1) := by decide +kernel
theorem dX4_numberAt_70 : decode cX4_numberAt 70 = .ok (.goto 57, 3) := by decide +kernel
theorem dX4_numberAt_73 : decode cX4_numberAt 73 = .ok (.aload_n 0, 1) := by decide +kernel
theorem dX4_numberAt_74 : decode cX4_numberAt 74 = .ok (.getfield 26, 3) := by decide +kernel
theorem dX4_numberAt_77 : decode cX4_numberAt 77 = .ok (.iload_n 2, 1) := by decide +kernel
theorem dX4_numberAt_78 : decode cX4_numberAt 78 = .ok (.baload, 1) := by decide +kernel
theorem dX4_numberAt_79 : decode cX4_numberAt 79 = .ok (.i2l, 1) := by decide +kernel
theorem dX4_numberAt_80 : decode cX4_numberAt 80 = .ok (.goto 47, 3) := by decide +kernel
theorem dX4_numberAt_83 : decode cX4_numberAt 83 = .ok (.aload_n 0, 1) := by decide +kernel
theorem dX4_numberAt_84 : decode cX4_numberAt 84 = .ok (.getfield 30, 3) := by decide +kernel
theorem dX4_numberAt_87 : decode cX4_numberAt 87 = .ok (.iload_n 2, 1) := by decide +kernel
theorem dX4_numberAt_88 : decode cX4_numberAt 88 = .ok (.caload, 1) := by decide +kernel
theorem dX4_numberAt_89 : decode cX4_numberAt 89 = .ok (.i2l, 1) := by decide +kernel
theorem dX4_numberAt_90 : decode cX4_numberAt 90 = .ok (.goto 37, 3) := by decide +kernel
theorem dX4_numberAt_93 : decode cX4_numberAt 93 = .ok (.aload_n 0, 1) := by decide +kernel
theorem dX4_numberAt_94 : decode cX4_numberAt 94 = .ok (.getfield 34, 3) := by decide +kernel
theorem dX4_numberAt_97 : decode cX4_numberAt 97 = .ok (.iload_n 2, 1) := by decide +kernel
theorem dX4_numberAt_98 : decode cX4_numberAt 98 = .ok (.baload, 1) := by decide +kernel
theorem dX4_numberAt_99 : decode cX4_numberAt 99 = .ok (.ifCond .eq 7, 3) := by decide +kernel
theorem dX4_numberAt_102 : decode cX4_numberAt 102 = .ok (.lconst 1, 1) := by decide +kernel
theorem dX4_numberAt_103 : decode cX4_numberAt 103 = .ok (.goto 24, 3) := by decide +kernel
theorem dX4_numberAt_106 : decode cX4_numberAt 106 = .ok (.lconst 0, 1) := by decide +kernel
theorem dX4_numberAt_107 : decode cX4_numberAt 107 = .ok (.goto 20, 3) := by decide +kernel
theorem dX4_numberAt_110 : decode cX4_numberAt 110 = .ok (.aload_n 0, 1) := by decide +kernel
theorem dX4_numberAt_111 : decode cX4_numberAt 111 = .ok (.getfield 38, 3) := by decide +kernel
theorem dX4_numberAt_114 : decode cX4_numberAt 114 = .ok (.iload_n 2, 1) := by decide +kernel
theorem dX4_numberAt_115 : decode cX4_numberAt 115 = .ok (.faload, 1) := by decide +kernel
theorem dX4_numberAt_116 : decode cX4_numberAt 116 = .ok (.f2l, 1) := by decide +kernel
theorem dX4_numberAt_117 : decode cX4_numberAt 117 = .ok (.goto 10, 3) := by decide +kernel
theorem dX4_numberAt_120 : decode cX4_numberAt 120 = .ok (.aload_n 0, 1) := by decide +kernel
theorem dX4_numberAt_121 : decode cX4_numberAt 121 = .ok (.getfield 42, 3) := by decide +kernel
theorem dX4_numberAt_124 : decode cX4_numberAt 124 = .ok (.iload_n 2, 1) := by decide +kernel
theorem dX4_numberAt_125 : decode cX4_numberAt 125 = .ok (.daload, 1) := by decide +kernel
theorem dX4_numberAt_126 : decode cX4_numberAt 126 = .ok (.d2l, 1) := by decide +kernel
theorem dX4_numberAt_127 : decode cX4_numberAt 127 = .ok (.lreturn, 1) := by decide +kernel
theorem dX4_store_0 : decode cX4_store 0 = .ok (.iload_n 1, 1) := by decide +kernel
theorem dX4_store_1 : decode cX4_store 1 = .ok (.tableswitch 126 0 6 #[43, 53, 64, 75, 86, 97, 115], 43) := by decide +kernel
theorem dX4_store_44 : decode cX4_store 44 = .ok (.aload_n 0, 1) := by decide +kernel
theorem dX4_store_45 : decode cX4_store 45 = .ok (.getfield 15, 3) := by decide +kernel
theorem dX4_store_48 : decode cX4_store 48 = .ok (.iload_n 2, 1) := by decide +kernel
theorem dX4_store_49 : decode cX4_store 49 = .ok (.iload_n 3, 1) := by decide +kernel
theorem dX4_store_50 : decode cX4_store 50 = .ok (.iastore, 1) := by decide +kernel
theorem dX4_store_51 : decode cX4_store 51 = .ok (.goto 84, 3) := by decide +kernel
theorem dX4_store_54 : decode cX4_store 54 = .ok (.aload_n 0, 1) := by decide +kernel
theorem dX4_store_55 : decode cX4_store 55 = .ok (.getfield 18, 3) := by decide +kernel
theorem dX4_store_58 : decode cX4_store 58 = .ok (.iload_n 2, 1) := by decide +kernel
theorem dX4_store_59 : decode cX4_store 59 = .ok (.iload_n 3, 1) := by decide +kernel
theorem dX4_store_60 : decode cX4_store 60 = .ok (.i2l, 1) := by decide +kernel
theorem dX4_store_61 : decode cX4_store 61 = .ok (.lastore, 1) := by decide +kernel
theorem dX4_store_62 : decode cX4_store 62 = .ok (.goto 73, 3) := by decide +kernel
theorem dX4_store_65 : decode cX4_store 65 = .ok (.aload_n 0, 1) := by decide +kernel
theorem dX4_store_66 : decode cX4_store 66 = .ok (.getfield 22, 3) := by decide +kernel
theorem dX4_store_69 : decode cX4_store 69 = .ok (.iload_n 2, 1) := by decide +kernel
theorem dX4_store_70 : decode cX4_store 70 = .ok (.iload_n 3, 1) := by decide +kernel
theorem dX4_store_71 : decode cX4_store 71 = .ok (.i2s, 1) := by decide +kernel
theorem dX4_store_72 : decode cX4_store 72 = .ok (.sastore, 1) := by decide +kernel
theorem dX4_store_73 : decode cX4_store 73 = .ok (.goto 62, 3) := by decide +kernel
theorem dX4_store_76 : decode cX4_store 76 = .ok (.aload_n 0, 1) := by decide +kernel
theorem dX4_store_77 : decode cX4_store 77 = .ok (.getfield 26, 3) := by decide +kernel
theorem dX4_store_80 : decode cX4_store 80 = .ok (.iload_n 2, 1) := by decide +kernel
theorem dX4_store_81 : decode cX4_store 81 = .ok (.iload_n 3, 1) := by decide +kernel
theorem dX4_store_82 : decode cX4_store 82 = .ok (.i2b, 1) := by decide +kernel
theorem dX4_store_83 : decode cX4_store 83 = .ok (.bastore, 1) := by decide +kernel
theorem dX4_store_84 : decode cX4_store 84 = .ok (.goto 51, 3) := by decide +kernel
theorem dX4_store_87 : decode cX4_store 87 = .ok (.aload_n 0, 1) := by decide +kernel
theorem dX4_store_88 : decode cX4_store 88 = .ok (.getfield 30, 3) := by decide +kernel
theorem dX4_store_91 : decode cX4_store 91 = .ok (.iload_n 2, 1) := by decide +kernel
theorem dX4_store_92 : decode cX4_store 92 = .ok (.iload_n 3, 1) := by decide +kernel
theorem dX4_store_93 : decode cX4_store 93 = .ok (.i2c, 1) := by decide +kernel
theorem dX4_store_94 : decode cX4_store 94 = .ok (.castore, 1) := by decide +kernel
theorem dX4_store_95 : decode cX4_store 95 = .ok (.goto 40, 3) := by decide +kernel
theorem dX4_store_98 : decode cX4_store 98 = .ok (.aload_n 0, 1) := by decide +kernel
theorem dX4_store_99 : decode cX4_store 99 = .ok (.getfield 34, 3) := by decide +kernel
theorem dX4_store_102 : decode cX4_store 102 = .ok (.iload_n 2, 1) := by decide +kernel
theorem dX4_store_103 : decode cX4_store 103 = .ok (.iload_n 3, 1) := by decide +kernel
theorem dX4_store_104 : decode cX4_store 104 = .ok (.ifCond .eq 7, 3) := by decide +kernel
theorem dX4_store_107 : decode cX4_store 107 = .ok (.iconst 1, 1) := by decide +kernel
theorem dX4_store_108 : decode cX4_store 108 = .ok (.goto 4, 3) := by decide +kernel
theorem dX4_store_111 : decode cX4_store 111 = .ok (.iconst 0, 1) := by decide +kernel
theorem dX4_store_112 : decode cX4_store 112 = .ok (.bastore, 1) := by decide +kernel
theorem dX4_store_113 : decode cX4_store 113 = .ok (.goto 22, 3) := by decide +kernel
theorem dX4_store_116 : decode cX4_store 116 = .ok (.aload_n 0, 1) := by decide +kernel
theorem dX4_store_117 : decode cX4_store 117 = .ok (.getfield 38, 3) := by decide +kernel
theorem dX4_store_120 : decode cX4_store 120 = .ok (.iload_n 2, 1) := by decide +kernel
theorem dX4_store_121 : decode cX4_store 121 = .ok (.iload_n 3, 1) := by decide +kernel
theorem dX4_store_122 : decode cX4_store 122 = .ok (.i2f, 1) := by decide +kernel
theorem dX4_store_123 : decode cX4_store 123 = .ok (.fastore, 1) := by decide +kernel
theorem dX4_store_124 : decode cX4_store 124 = .ok (.goto 11, 3) := by decide +kernel
theorem dX4_store_127 : decode cX4_store 127 = .ok (.aload_n 0, 1) := by decide +kernel
theorem dX4_store_128 : decode cX4_store 128 = .ok (.getfield 42, 3) := by decide +kernel
theorem dX4_store_131 : decode cX4_store 131 = .ok (.iload_n 2, 1) := by decide +kernel
theorem dX4_store_132 : decode cX4_store 132 = .ok (.iload_n 3, 1) := by decide +kernel
theorem dX4_store_133 : decode cX4_store 133 = .ok (.i2d, 1) := by decide +kernel
theorem dX4_store_134 : decode cX4_store 134 = .ok (.dastore, 1) := by decide +kernel
theorem dX4_store_135 : decode cX4_store 135 = .ok (.return_, 1) := by decide +kernel
theorem dX5_init_0 : decode cX5_init 0 = .ok (.aload_n 0, 1) := by decide +kernel
theorem dX5_init_1 : decode cX5_init 1 = .ok (.invokespecial 1, 3) := by decide +kernel
theorem dX5_init_4 : decode cX5_init 4 = .ok (.aload_n 0, 1) := by decide +kernel
theorem dX5_init_5 : decode cX5_init 5 = .ok (.new 7, 3) := by decide +kernel
theorem dX5_init_8 : decode cX5_init 8 = .ok (.dup, 1) := by decide +kernel
theorem dX5_init_9 : decode cX5_init 9 = .ok (.invokespecial 9, 3) := by decide +kernel
theorem dX5_init_12 : decode cX5_init 12 = .ok (.putfield 10, 3) := by decide +kernel
theorem dX5_init_15 : decode cX5_init 15 = .ok (.aload_n 0, 1) := by decide +kernel
theorem dX5_init_16 : decode cX5_init 16 = .ok (.new 16, 3) := by decide +kernel
theorem dX5_init_19 : decode cX5_init 19 = .ok (.dup, 1) := by decide +kernel
theorem dX5_init_20 : decode cX5_init 20 = .ok (.invokespecial 18, 3) := by decide +kernel
theorem dX5_init_23 : decode cX5_init 23 = .ok (.putfield 19, 3) := by decide +kernel
theorem dX5_init_26 : decode cX5_init 26 = .ok (.aload_n 0, 1) := by decide +kernel
theorem dX5_init_27 : decode cX5_init 27 = .ok (.new 23, 3) := by decide +kernel
theorem dX5_init_30 : decode cX5_init 30 = .ok (.dup, 1) := by decide +kernel
theorem dX5_init_31 : decode cX5_init 31 = .ok (.invokespecial 25, 3) := by decide +kernel
theorem dX5_init_34 : decode cX5_init 34 = .ok (.putfield 26, 3) := by decide +kernel
theorem dX5_init_37 : decode cX5_init 37 = .ok (.aload_n 0, 1) := by decide +kernel
theorem dX5_init_38 : decode cX5_init 38 = .ok (.iconst 0, 1) := by decide +kernel
theorem dX5_init_39 : decode cX5_init 39 = .ok (.putfield 30, 3) := by decide +kernel
theorem dX5_init_42 : decode cX5_init 42 = .ok (.aload_n 0, 1) := by decide +kernel
theorem dX5_init_43 : decode cX5_init 43 = .ok (.iconst 0, 1) := by decide +kernel
theorem dX5_init_44 : decode cX5_init 44 = .ok (.putfield 34, 3) := by decide +kernel
theorem dX5_init_47 : decode cX5_init 47 = .ok (.return_, 1) := by decide +kernel
theorem dX5_read_0 : decode cX5_read 0 = .ok (.iload_n 1, 1) := by decide +kernel
theorem dX5_read_1 : decode cX5_read 1 = .ok (.invokestatic 37, 3) := by decide +kernel
theorem dX5_read_4 : decode cX5_read 4 = .ok (.istore 4, 2) := by decide +kernel
theorem dX5_read_6 : decode cX5_read 6 = .ok (.iload_n 2, 1) := by decide +kernel
theorem dX5_read_7 : decode cX5_read 7 = .ok (.invokestatic 41, 3) := by decide +kernel
theorem dX5_read_10 : decode cX5_read 10 = .ok (.iload_n 3, 1) := by decide +kernel
theorem dX5_read_11 : decode cX5_read 11 = .ok (.aload_n 0, 1) := by decide +kernel
theorem dX5_read_12 : decode cX5_read 12 = .ok (.getfield 10, 3) := by decide +kernel
theorem dX5_read_15 : decode cX5_read 15 = .ok (.iload 4, 2) := by decide +kernel
theorem dX5_read_17 : decode cX5_read 17 = .ok (.invokevirtual 45, 3) := by decide +kernel
theorem dX5_read_20 : decode cX5_read 20 = .ok (.invokestatic 48, 3) := by decide +kernel
theorem dX5_read_23 : decode cX5_read 23 = .ok (.aload_n 0, 1) := by decide +kernel
theorem dX5_read_24 : decode cX5_read 24 = .ok (.getfield 10, 3) := by decide +kernel
theorem dX5_read_27 : decode cX5_read 27 = .ok (.iload 4, 2) := by decide +kernel
theorem dX5_read_29 : decode cX5_read 29 = .ok (.iload_n 3, 1) := by decide +kernel
theorem dX5_read_30 : decode cX5_read 30 = .ok (.invokevirtual 52, 3) := by decide +kernel
theorem dX5_read_33 : decode cX5_read 33 = .ok (.lreturn, 1) := by decide +kernel
theorem dX5_write_0 : decode cX5_write 0 = .ok (.iload_n 1, 1) := by decide +kernel
theorem dX5_write_1 : decode cX5_write 1 = .ok (.invokestatic 37, 3) := by decide +kernel
theorem dX5_write_4 : decode cX5_write 4 = .ok (.istore 5, 2) := by decide +kernel
theorem dX5_write_6 : decode cX5_write 6 = .ok (.iload_n 2, 1) := by decide +kernel
theorem dX5_write_7 : decode cX5_write 7 = .ok (.invokestatic 41, 3) := by decide +kernel
theorem dX5_write_10 : decode cX5_write 10 = .ok (.iload_n 3, 1) := by decide +kernel
theorem dX5_write_11 : decode cX5_write 11 = .ok (.aload_n 0, 1) := by decide +kernel
theorem dX5_write_12 : decode cX5_write 12 = .ok (.getfield 10, 3) := by decide +kernel
theorem dX5_write_15 : decode cX5_write 15 = .ok (.iload 5, 2) := by decide +kernel
theorem dX5_write_17 : decode cX5_write 17 = .ok (.invokevirtual 45, 3) := by decide +kernel
theorem dX5_write_20 : decode cX5_write 20 = .ok (.invokestatic 48, 3) := by decide +kernel
theorem dX5_write_23 : decode cX5_write 23 = .ok (.aload_n 0, 1) := by decide +kernel
theorem dX5_write_24 : decode cX5_write 24 = .ok (.getfield 10, 3) := by decide +kernel
theorem dX5_write_27 : decode cX5_write 27 = .ok (.iload 5, 2) := by decide +kernel
theorem dX5_write_29 : decode cX5_write 29 = .ok (.iload_n 3, 1) := by decide +kernel
theorem dX5_write_30 : decode cX5_write 30 = .ok (.iload 4, 2) := by decide +kernel
theorem dX5_write_32 : decode cX5_write 32 = .ok (.invokevirtual 56, 3) := by decide +kernel
theorem dX5_write_35 : decode cX5_write 35 = .ok (.aload_n 0, 1) := by decide +kernel
theorem dX5_write_36 : decode cX5_write 36 = .ok (.dup, 1) := by decide +kernel
theorem dX5_write_37 : decode cX5_write 37 = .ok (.getfield 30, 3) := by decide +kernel
theorem dX5_write_40 : decode cX5_write 40 = .ok (.iconst 1, 1) := by decide +kernel
theorem dX5_write_41 : decode cX5_write 41 = .ok (.iadd, 1) := by decide +kernel
theorem dX5_write_42 : decode cX5_write 42 = .ok (.putfield 30, 3) := by decide +kernel
theorem dX5_write_45 : decode cX5_write 45 = .ok (.aload_n 0, 1) := by decide +kernel
theorem dX5_write_46 : decode cX5_write 46 = .ok (.getfield 30, 3) := by decide +kernel
theorem dX5_write_49 : decode cX5_write 49 = .ok (.ireturn, 1) := by decide +kernel
theorem dX5_length_0 : decode cX5_length 0 = .ok (.iload_n 2, 1) := by decide +kernel
theorem dX5_length_1 : decode cX5_length 1 = .ok (.invokestatic 41, 3) := by decide +kernel
theorem dX5_length_4 : decode cX5_length 4 = .ok (.aload_n 0, 1) := by decide +kernel
theorem dX5_length_5 : decode cX5_length 5 = .ok (.getfield 10, 3) := by decide +kernel
theorem dX5_length_8 : decode cX5_length 8 = .ok (.iload_n 1, 1) := by decide +kernel
theorem dX5_length_9 : decode cX5_length 9 = .ok (.invokestatic 37, 3) := by decide +kernel
theorem dX5_length_12 : decode cX5_length 12 = .ok (.invokevirtual 45, 3) := by decide +kernel
theorem dX5_length_15 : decode cX5_length 15 = .ok (.ireturn, 1) := by decide +kernel
theorem dX5_make_0 : decode cX5_make 0 = .ok (.iload_n 2, 1) := by decide +kernel
theorem dX5_make_1 : decode cX5_make 1 = .ok (.bipush 40, 2) := by decide +kernel
theorem dX5_make_3 : decode cX5_make 3 = .ok (.irem, 1) := by decide +kernel
theorem dX5_make_4 : decode cX5_make 4 = .ok (.istore_n 3, 1) := by decide +kernel
theorem dX5_make_5 : decode cX5_make 5 = .ok (.iload_n 3, 1) := by decide +kernel
theorem dX5_make_6 : decode cX5_make 6 = .ok (.invokestatic 60, 3) := by decide +kernel
theorem dX5_make_9 : decode cX5_make 9 = .ok (.aload_n 0, 1) := by decide +kernel
theorem dX5_make_10 : decode cX5_make 10 = .ok (.getfield 10, 3) := by decide +kernel
theorem dX5_make_13 : decode cX5_make 13 = .ok (.iload_n 1, 1) := by decide +kernel
theorem dX5_make_14 : decode cX5_make 14 = .ok (.invokestatic 37, 3) := by decide +kernel
theorem dX5_make_17 : decode cX5_make 17 = .ok (.iload_n 3, 1) := by decide +kernel
theorem dX5_make_18 : decode cX5_make 18 = .ok (.invokevirtual 64, 3) := by decide +kernel
theorem dX5_make_21 : decode cX5_make 21 = .ok (.iload_n 3, 1) := by decide +kernel
theorem dX5_make_22 : decode cX5_make 22 = .ok (.ireturn, 1) := by decide +kernel
theorem dX5_grid_0 : decode cX5_grid 0 = .ok (.iload_n 1, 1) := by decide +kernel
theorem dX5_grid_1 : decode cX5_grid 1 = .ok (.bipush 9, 2) := by decide +kernel
theorem dX5_grid_3 : decode cX5_grid 3 = .ok (.irem, 1) := by decide +kernel
theorem dX5_grid_4 : decode cX5_grid 4 = .ok (.istore_n 3, 1) := by decide +kernel
theorem dX5_grid_5 : decode cX5_grid 5 = .ok (.iload_n 2, 1) := by decide +kernel
theorem dX5_grid_6 : decode cX5_grid 6 = .ok (.bipush 9, 2) := by decide +kernel
theorem dX5_grid_8 : decode cX5_grid 8 = .ok (.irem, 1) := by decide +kernel
theorem dX5_grid_9 : decode cX5_grid 9 = .ok (.istore 4, 2) := by decide +kernel
theorem dX5_grid_11 : decode cX5_grid 11 = .ok (.iload_n 3, 1) := by decide +kernel
theorem dX5_grid_12 : decode cX5_grid 12 = .ok (.invokestatic 60, 3) := by decide +kernel
theorem dX5_grid_15 : decode cX5_grid 15 = .ok (.iload 4, 2) := by decide +kernel
theorem dX5_grid_17 : decode cX5_grid 17 = .ok (.invokestatic 60, 3) := by decide +kernel
theorem dX5_grid_20 : decode cX5_grid 20 = .ok (.aload_n 0, 1) := by decide +kernel
theorem dX5_grid_21 : decode cX5_grid 21 = .ok (.getfield 19, 3) := by decide +kernel
theorem dX5_grid_24 : decode cX5_grid 24 = .ok (.iload_n 3, 1) := by decide +kernel
theorem dX5_grid_25 : decode cX5_grid 25 = .ok (.iload 4, 2) := by decide +kernel
theorem dX5_grid_27 : decode cX5_grid 27 = .ok (.invokevirtual 67, 3) := by decide +kernel
theorem dX5_grid_30 : decode cX5_grid 30 = .ok (.iload_n 3, 1) := by decide +kernel
theorem dX5_grid_31 : decode cX5_grid 31 = .ok (.iload 4, 2) := by decide +kernel
theorem dX5_grid_33 : decode cX5_grid 33 = .ok (.imul, 1) := by decide +kernel
theorem dX5_grid_34 : decode cX5_grid 34 = .ok (.ireturn, 1) := by decide +kernel
theorem dX5_cell_0 : decode cX5_cell 0 = .ok (.aload_n 0, 1) := by decide +kernel
theorem dX5_cell_1 : decode cX5_cell 1 = .ok (.getfield 19, 3) := by decide +kernel
theorem dX5_cell_4 : decode cX5_cell 4 = .ok (.invokevirtual 68, 3) := by decide +kernel
theorem dX5_cell_7 : decode cX5_cell 7 = .ok (.invokestatic 41, 3) := by decide +kernel
theorem dX5_cell_10 : decode cX5_cell 10 = .ok (.iload_n 1, 1) := by decide +kernel
theorem dX5_cell_11 : decode cX5_cell 11 = .ok (.aload_n 0, 1) := by decide +kernel
theorem dX5_cell_12 : decode cX5_cell 12 = .ok (.getfield 19, 3) := by decide +kernel
theorem dX5_cell_15 : decode cX5_cell 15 = .ok (.invokevirtual 72, 3) := by decide +kernel
theorem dX5_cell_18 : decode cX5_cell 18 = .ok (.invokestatic 48, 3) := by decide +kernel
theorem dX5_cell_21 : decode cX5_cell 21 = .ok (.iload_n 2, 1) := by decide +kernel
theorem dX5_cell_22 : decode cX5_cell 22 = .ok (.aload_n 0, 1) := by decide +kernel
theorem dX5_cell_23 : decode cX5_cell 23 = .ok (.getfield 19, 3) := by decide +kernel
theorem dX5_cell_26 : decode cX5_cell 26 = .ok (.invokevirtual 76, 3) := by decide +kernel
theorem dX5_cell_29 : decode cX5_cell 29 = .ok (.invokestatic 48, 3) := by decide +kernel
theorem dX5_cell_32 : decode cX5_cell 32 = .ok (.aload_n 0, 1) := by decide +kernel
theorem dX5_cell_33 : decode cX5_cell 33 = .ok (.getfield 19, 3) := by decide +kernel
theorem dX5_cell_36 : decode cX5_cell 36 = .ok (.iload_n 1, 1) := by decide +kernel
theorem dX5_cell_37 : decode cX5_cell 37 = .ok (.iload_n 2, 1) := by decide +kernel
theorem dX5_cell_38 : decode cX5_cell 38 = .ok (.invokevirtual 79, 3) := by decide +kernel
theorem dX5_cell_41 : decode cX5_cell 41 = .ok (.ireturn, 1) := by decide +kernel
theorem dX5_boxes_0 : decode cX5_boxes 0 = .ok (.iload_n 1, 1) := by decide +kernel
theorem dX5_boxes_1 : decode cX5_boxes 1 = .ok (.bipush 20, 2) := by decide +kernel
theorem dX5_boxes_3 : decode cX5_boxes 3 = .ok (.irem, 1) := by decide +kernel
theorem dX5_boxes_4 : decode cX5_boxes 4 = .ok (.istore_n 3, 1) := by decide +kernel
theorem dX5_boxes_5 : decode cX5_boxes 5 = .ok (.iload_n 3, 1) := by decide +kernel
theorem dX5_boxes_6 : decode cX5_boxes 6 = .ok (.invokestatic 60, 3) := by decide +kernel
theorem dX5_boxes_9 : decode cX5_boxes 9 = .ok (.aload_n 0, 1) := by decide +kernel
theorem dX5_boxes_10 : decode cX5_boxes 10 = .ok (.getfield 26, 3) := by decide +kernel
theorem dX5_boxes_13 : decode cX5_boxes 13 = .ok (.iload_n 3, 1) := by decide +kernel
theorem dX5_boxes_14 : decode cX5_boxes 14 = .ok (.iload_n 2, 1) := by decide +kernel
theorem dX5_boxes_15 : decode cX5_boxes 15 = .ok (.invokevirtual 82, 3) := by decide +kernel
theorem dX5_boxes_18 : decode cX5_boxes 18 = .ok (.iload_n 3, 1) := by decide +kernel
theorem dX5_boxes_19 : decode cX5_boxes 19 = .ok (.ireturn, 1) := by decide +kernel
theorem dX5_put_0 : decode cX5_put 0 = .ok (.aload_n 0, 1) := by decide +kernel
theorem dX5_put_1 : decode cX5_put 1 = .ok (.getfield 26, 3) := by decide +kernel
theorem dX5_put_4 : decode cX5_put 4 = .ok (.invokevirtual 85, 3) := by decide +kernel
theorem dX5_put_7 : decode cX5_put 7 = .ok (.ifCond .eq 11, 3) := by decide +kernel
theorem dX5_put_10 : decode cX5_put 10 = .ok (.iload_n 1, 1) := by decide +kernel
theorem dX5_put_11 : decode cX5_put 11 = .ok (.ifCond .eq 7, 3) := by decide +kernel
theorem dX5_put_14 : decode cX5_put 14 = .ok (.iconst 1, 1) := by decide +kernel
theorem dX5_put_15 : decode cX5_put 15 = .ok (.goto 4, 3) := by decide +kernel
theorem dX5_put_18 : decode cX5_put 18 = .ok (.iconst 0, 1) := by decide +kernel
theorem dX5_put_19 : decode cX5_put 19 = .ok (.invokestatic 41, 3) := by decide +kernel
theorem dX5_put_22 : decode cX5_put 22 = .ok (.iload_n 2, 1) := by decide +kernel
theorem dX5_put_23 : decode cX5_put 23 = .ok (.aload_n 0, 1) := by decide +kernel
theorem dX5_put_24 : decode cX5_put 24 = .ok (.getfield 26, 3) := by decide +kernel
theorem dX5_put_27 : decode cX5_put 27 = .ok (.invokevirtual 86, 3) := by decide +kernel
theorem dX5_put_30 : decode cX5_put 30 = .ok (.invokestatic 48, 3) := by decide +kernel
theorem dX5_put_33 : decode cX5_put 33 = .ok (.iload_n 3, 1) := by decide +kernel
theorem dX5_put_34 : decode cX5_put 34 = .ok (.iload 4, 2) := by decide +kernel
theorem dX5_put_36 : decode cX5_put 36 = .ok (.invokestatic 89, 3) := by decide +kernel
theorem dX5_put_39 : decode cX5_put 39 = .ok (.astore 5, 2) := by decide +kernel
theorem dX5_put_41 : decode cX5_put 41 = .ok (.aload_n 0, 1) := by decide +kernel
theorem dX5_put_42 : decode cX5_put 42 = .ok (.getfield 26, 3) := by decide +kernel
theorem dX5_put_45 : decode cX5_put 45 = .ok (.aload 5, 2) := by decide +kernel
theorem dX5_put_47 : decode cX5_put 47 = .ok (.invokevirtual 93, 3) := by decide +kernel
theorem dX5_put_50 : decode cX5_put 50 = .ok (.ifCond .ne 13, 3) := by decide +kernel
theorem dX5_put_53 : decode cX5_put 53 = .ok (.new 97, 3) := by decide +kernel
theorem dX5_put_56 : decode cX5_put 56 = .ok (.dup, 1) := by decide +kernel
theorem dX5_put_57 : decode cX5_put 57 = .ok (.ldc 99, 2) := by decide +kernel
theorem dX5_put_59 : decode cX5_put 59 = .ok (.invokespecial 101, 3) := by decide +kernel
theorem dX5_put_62 : decode cX5_put 62 = .ok (.athrow, 1) := by decide +kernel
theorem dX5_put_63 : decode cX5_put 63 = .ok (.aload_n 0, 1) := by decide +kernel
theorem dX5_put_64 : decode cX5_put 64 = .ok (.getfield 26, 3) := by decide +kernel
theorem dX5_put_67 : decode cX5_put 67 = .ok (.iload_n 2, 1) := by decide +kernel
theorem dX5_put_68 : decode cX5_put 68 = .ok (.aload 5, 2) := by decide +kernel
theorem dX5_put_70 : decode cX5_put 70 = .ok (.invokevirtual 104, 3) := by decide +kernel
theorem dX5_put_73 : decode cX5_put 73 = .ok (.aload_n 0, 1) := by decide +kernel
theorem dX5_put_74 : decode cX5_put 74 = .ok (.dup, 1) := by decide +kernel
theorem dX5_put_75 : decode cX5_put 75 = .ok (.getfield 34, 3) := by decide +kernel
theorem dX5_put_78 : decode cX5_put 78 = .ok (.iconst 1, 1) := by decide +kernel
theorem dX5_put_79 : decode cX5_put 79 = .ok (.iadd, 1) := by decide +kernel
theorem dX5_put_80 : decode cX5_put 80 = .ok (.putfield 34, 3) := by decide +kernel
theorem dX5_put_83 : decode cX5_put 83 = .ok (.aload_n 0, 1) := by decide +kernel
theorem dX5_put_84 : decode cX5_put 84 = .ok (.getfield 34, 3) := by decide +kernel
theorem dX5_put_87 : decode cX5_put 87 = .ok (.ireturn, 1) := by decide +kernel
theorem dX5_value_0 : decode cX5_value 0 = .ok (.aload_n 0, 1) := by decide +kernel
theorem dX5_value_1 : decode cX5_value 1 = .ok (.iload_n 1, 1) := by decide +kernel
theorem dX5_value_2 : decode cX5_value 2 = .ok (.invokevirtual 107, 3) := by decide +kernel
theorem dX5_value_5 : decode cX5_value 5 = .ok (.getfield 111, 3) := by decide +kernel
theorem dX5_value_8 : decode cX5_value 8 = .ok (.ireturn, 1) := by decide +kernel
theorem dX5_change_0 : decode cX5_change 0 = .ok (.aload_n 0, 1) := by decide +kernel
theorem dX5_change_1 : decode cX5_change 1 = .ok (.iload_n 1, 1) := by decide +kernel
theorem dX5_change_2 : decode cX5_change 2 = .ok (.invokevirtual 107, 3) := by decide +kernel
theorem dX5_change_5 : decode cX5_change 5 = .ok (.astore_n 3, 1) := by decide +kernel
theorem dX5_change_6 : decode cX5_change 6 = .ok (.aload_n 3, 1) := by decide +kernel
theorem dX5_change_7 : decode cX5_change 7 = .ok (.getfield 111, 3) := by decide +kernel
theorem dX5_change_10 : decode cX5_change 10 = .ok (.istore 4, 2) := by decide +kernel
theorem dX5_change_12 : decode cX5_change 12 = .ok (.aload_n 3, 1) := by decide +kernel
theorem dX5_change_13 : decode cX5_change 13 = .ok (.iload_n 2, 1) := by decide +kernel
theorem dX5_change_14 : decode cX5_change 14 = .ok (.putfield 111, 3) := by decide +kernel
theorem dX5_change_17 : decode cX5_change 17 = .ok (.iload 4, 2) := by decide +kernel
theorem dX5_change_19 : decode cX5_change 19 = .ok (.ireturn, 1) := by decide +kernel
theorem dX5_weigh_0 : decode cX5_weigh 0 = .ok (.aload_n 0, 1) := by decide +kernel
theorem dX5_weigh_1 : decode cX5_weigh 1 = .ok (.iload_n 1, 1) := by decide +kernel
theorem dX5_weigh_2 : decode cX5_weigh 2 = .ok (.invokevirtual 107, 3) := by decide +kernel
theorem dX5_weigh_5 : decode cX5_weigh 5 = .ok (.iload_n 2, 1) := by decide +kernel
theorem dX5_weigh_6 : decode cX5_weigh 6 = .ok (.invokevirtual 116, 3) := by decide +kernel
theorem dX5_weigh_9 : decode cX5_weigh 9 = .ok (.ireturn, 1) := by decide +kernel
theorem dX5_roll_0 : decode cX5_roll 0 = .ok (.aload_n 0, 1) := by decide +kernel
theorem dX5_roll_1 : decode cX5_roll 1 = .ok (.iload_n 1, 1) := by decide +kernel
theorem dX5_roll_2 : decode cX5_roll 2 = .ok (.invokevirtual 107, 3) := by decide +kernel
theorem dX5_roll_5 : decode cX5_roll 5 = .ok (.astore_n 3, 1) := by decide +kernel
theorem dX5_roll_6 : decode cX5_roll 6 = .ok (.aload_n 3, 1) := by decide +kernel
theorem dX5_roll_7 : decode cX5_roll 7 = .ok (.instanceof 119, 3) := by decide +kernel
theorem dX5_roll_10 : decode cX5_roll 10 = .ok (.ifCond .eq 16, 3) := by decide +kernel
theorem dX5_roll_13 : decode cX5_roll 13 = .ok (.aload_n 3, 1) := by decide +kernel
theorem dX5_roll_14 : decode cX5_roll 14 = .ok (.checkcast 119, 3) := by decide +kernel
theorem dX5_roll_17 : decode cX5_roll 17 = .ok (.astore 4, 2) := by decide +kernel
theorem dX5_roll_19 : decode cX5_roll 19 = .ok (.aload 4, 2) := by decide +kernel
theorem dX5_roll_21 : decode cX5_roll 21 = .ok (.iload_n 2, 1) := by decide +kernel
theorem dX5_roll_22 : decode cX5_roll 22 = .ok (.invokevirtual 121, 3) := by decide +kernel
theorem dX5_roll_25 : decode cX5_roll 25 = .ok (.ireturn, 1) := by decide +kernel
theorem dX5_roll_26 : decode cX5_roll 26 = .ok (.new 124, 3) := by decide +kernel
theorem dX5_roll_29 : decode cX5_roll 29 = .ok (.dup, 1) := by decide +kernel
theorem dX5_roll_30 : decode cX5_roll 30 = .ok (.ldc 99, 2) := by decide +kernel
theorem dX5_roll_32 : decode cX5_roll 32 = .ok (.invokespecial 126, 3) := by decide +kernel
theorem dX5_roll_35 : decode cX5_roll 35 = .ok (.athrow, 1) := by decide +kernel
theorem dX5_divide_0 : decode cX5_divide 0 = .ok (.iload_n 2, 1) := by decide +kernel
theorem dX5_divide_1 : decode cX5_divide 1 = .ok (.i2l, 1) := by decide +kernel
theorem dX5_divide_2 : decode cX5_divide 2 = .ok (.invokestatic 127, 3) := by decide +kernel
theorem dX5_divide_5 : decode cX5_divide 5 = .ok (.iload_n 3, 1) := by decide +kernel
theorem dX5_divide_6 : decode cX5_divide 6 = .ok (.ifCond .eq 9, 3) := by decide +kernel
theorem dX5_divide_9 : decode cX5_divide 9 = .ok (.iload_n 1, 1) := by decide +kernel
theorem dX5_divide_10 : decode cX5_divide 10 = .ok (.iload_n 2, 1) := by decide +kernel
theorem dX5_divide_11 : decode cX5_divide 11 = .ok (.irem, 1) := by decide +kernel
theorem dX5_divide_12 : decode cX5_divide 12 = .ok (.goto 6, 3) := by decide +kernel
theorem dX5_divide_15 : decode cX5_divide 15 = .ok (.iload_n 1, 1) := by decide +kernel
theorem dX5_divide_16 : decode cX5_divide 16 = .ok (.iload_n 2, 1) := by decide +kernel
theorem dX5_divide_17 : decode cX5_divide 17 = .ok (.idiv, 1) := by decide +kernel
theorem dX5_divide_18 : decode cX5_divide 18 = .ok (.ireturn, 1) := by decide +kernel
theorem dX5_divideLong_0 : decode cX5_divideLong 0 = .ok (.lload_n 3, 1) := by decide +kernel
theorem dX5_divideLong_1 : decode cX5_divideLong 1 = .ok (.invokestatic 127, 3) := by decide +kernel
theorem dX5_divideLong_4 : decode cX5_divideLong 4 = .ok (.iload 5, 2) := by decide +kernel
theorem dX5_divideLong_6 : decode cX5_divideLong 6 = .ok (.ifCond .eq 9, 3) := by decide +kernel
theorem dX5_divideLong_9 : decode cX5_divideLong 9 = .ok (.lload_n 1, 1) := by decide +kernel
theorem dX5_divideLong_10 : decode cX5_divideLong 10 = .ok (.lload_n 3, 1) := by decide +kernel
theorem dX5_divideLong_11 : decode cX5_divideLong 11 = .ok (.lrem, 1) := by decide +kernel
theorem dX5_divideLong_12 : decode cX5_divideLong 12 = .ok (.goto 6, 3) := by decide +kernel
theorem dX5_divideLong_15 : decode cX5_divideLong 15 = .ok (.lload_n 1, 1) := by decide +kernel
theorem dX5_divideLong_16 : decode cX5_divideLong 16 = .ok (.lload_n 3, 1) := by decide +kernel
theorem dX5_divideLong_17 : decode cX5_divideLong 17 = .ok (.ldiv, 1) := by decide +kernel
theorem dX5_divideLong_18 : decode cX5_divideLong 18 = .ok (.lreturn, 1) := by decide +kernel
theorem dX5_raise_0 : decode cX5_raise 0 = .ok (.iload_n 1, 1) := by decide +kernel
theorem dX5_raise_1 : decode cX5_raise 1 = .ok (.invokestatic 41, 3) := by decide +kernel
theorem dX5_raise_4 : decode cX5_raise 4 = .ok (.new 131, 3) := by decide +kernel
theorem dX5_raise_7 : decode cX5_raise 7 = .ok (.dup, 1) := by decide +kernel
theorem dX5_raise_8 : decode cX5_raise 8 = .ok (.ldc 133, 2) := by decide +kernel
theorem dX5_raise_10 : decode cX5_raise 10 = .ok (.invokespecial 135, 3) := by decide +kernel
theorem dX5_raise_13 : decode cX5_raise 13 = .ok (.athrow, 1) := by decide +kernel
theorem dX5_kindOf_0 : decode cX5_kindOf 0 = .ok (.iload_n 0, 1) := by decide +kernel
theorem dX5_kindOf_1 : decode cX5_kindOf 1 = .ok (.bipush 7, 2) := by decide +kernel
theorem dX5_kindOf_3 : decode cX5_kindOf 3 = .ok (.iand, 1) := by decide +kernel
theorem dX5_kindOf_4 : decode cX5_kindOf 4 = .ok (.ireturn, 1) := by decide +kernel
theorem dX5_needThere_0 : decode cX5_needThere 0 = .ok (.iload_n 0, 1) := by decide +kernel
theorem dX5_needThere_1 : decode cX5_needThere 1 = .ok (.ifCond .ne 13, 3) := by decide +kernel
theorem dX5_needThere_4 : decode cX5_needThere 4 = .ok (.new 136, 3) := by decide +kernel
theorem dX5_needThere_7 : decode cX5_needThere 7 = .ok (.dup, 1) := by decide +kernel
theorem dX5_needThere_8 : decode cX5_needThere 8 = .ok (.ldc 138, 2) := by decide +kernel
theorem dX5_needThere_10 : decode cX5_needThere 10 = .ok (.invokespecial 140, 3) := by decide +kernel
theorem dX5_needThere_13 : decode cX5_needThere 13 = .ok (.athrow, 1) := by decide +kernel
theorem dX5_needThere_14 : decode cX5_needThere 14 = .ok (.return_, 1) := by decide +kernel
theorem dX5_needPlace_0 : decode cX5_needPlace 0 = .ok (.iload_n 0, 1) := by decide +kernel
theorem dX5_needPlace_1 : decode cX5_needPlace 1 = .ok (.ifCond .lt 8, 3) := by decide +kernel
theorem dX5_needPlace_4 : decode cX5_needPlace 4 = .ok (.iload_n 0, 1) := by decide +kernel
theorem dX5_needPlace_5 : decode cX5_needPlace 5 = .ok (.iload_n 1, 1) := by decide +kernel
theorem dX5_needPlace_6 : decode cX5_needPlace 6 = .ok (.if_icmp .lt 13, 3) := by decide +kernel
theorem dX5_needPlace_9 : decode cX5_needPlace 9 = .ok (.new 141, 3) := by decide +kernel
theorem dX5_needPlace_12 : decode cX5_needPlace 12 = .ok (.dup, 1) := by decide +kernel
theorem dX5_needPlace_13 : decode cX5_needPlace 13 = .ok (.ldc 143, 2) := by decide +kernel
theorem dX5_needPlace_15 : decode cX5_needPlace 15 = .ok (.invokespecial 145, 3) := by decide +kernel
theorem dX5_needPlace_18 : decode cX5_needPlace 18 = .ok (.athrow, 1) := by decide +kernel
theorem dX5_needPlace_19 : decode cX5_needPlace 19 = .ok (.return_, 1) := by decide +kernel
theorem dX5_needSize_0 : decode cX5_needSize 0 = .ok (.iload_n 0, 1) := by decide +kernel
theorem dX5_needSize_1 : decode cX5_needSize 1 = .ok (.ifCond .ge 13, 3) := by decide +kernel
theorem dX5_needSize_4 : decode cX5_needSize 4 = .ok (.new 146, 3) := by decide +kernel
theorem dX5_needSize_7 : decode cX5_needSize 7 = .ok (.dup, 1) := by decide +kernel
theorem dX5_needSize_8 : decode cX5_needSize 8 = .ok (.ldc 148, 2) := by decide +kernel
theorem dX5_needSize_10 : decode cX5_needSize 10 = .ok (.invokespecial 150, 3) := by decide +kernel
theorem dX5_needSize_13 : decode cX5_needSize 13 = .ok (.athrow, 1) := by decide +kernel
theorem dX5_needSize_14 : decode cX5_needSize 14 = .ok (.return_, 1) := by decide +kernel
theorem dX5_needDivisor_0 : decode cX5_needDivisor 0 = .ok (.lload_n 0, 1) := by decide +kernel
theorem dX5_needDivisor_1 : decode cX5_needDivisor 1 = .ok (.lconst 0, 1) := by decide +kernel
theorem dX5_needDivisor_2 : decode cX5_needDivisor 2 = .ok (.lcmp, 1) := by decide +kernel
theorem dX5_needDivisor_3 : decode cX5_needDivisor 3 = .ok (.ifCond .ne 13, 3) := by decide +kernel
theorem dX5_needDivisor_6 : decode cX5_needDivisor 6 = .ok (.new 131, 3) := by decide +kernel
theorem dX5_needDivisor_9 : decode cX5_needDivisor 9 = .ok (.dup, 1) := by decide +kernel
theorem dX5_needDivisor_10 : decode cX5_needDivisor 10 = .ok (.ldc 151, 2) := by decide +kernel
theorem dX5_needDivisor_12 : decode cX5_needDivisor 12 = .ok (.invokespecial 135, 3) := by decide +kernel
theorem dX5_needDivisor_15 : decode cX5_needDivisor 15 = .ok (.athrow, 1) := by decide +kernel
theorem dX5_needDivisor_16 : decode cX5_needDivisor 16 = .ok (.return_, 1) := by decide +kernel
theorem dX5_newBox_0 : decode cX5_newBox 0 = .ok (.iload_n 0, 1) := by decide +kernel
theorem dX5_newBox_1 : decode cX5_newBox 1 = .ok (.iconst 3, 1) := by decide +kernel
theorem dX5_newBox_2 : decode cX5_newBox 2 = .ok (.iand, 1) := by decide +kernel
theorem dX5_newBox_3 : decode cX5_newBox 3 = .ok (.lookupswitch 40 #[(0, 25), (1, 29)], 25) := by decide +kernel
theorem dX5_newBox_28 : decode cX5_newBox 28 = .ok (.aconst_null, 1) := by decide +kernel
theorem dX5_newBox_29 : decode cX5_newBox 29 = .ok (.goto 22, 3) := by decide +kernel
theorem dX5_newBox_32 : decode cX5_newBox 32 = .ok (.new 112, 3) := by decide +kernel
theorem dX5_newBox_35 : decode cX5_newBox 35 = .ok (.dup, 1) := by decide +kernel
theorem dX5_newBox_36 : decode cX5_newBox 36 = .ok (.iload_n 1, 1) := by decide +kernel
theorem dX5_newBox_37 : decode cX5_newBox 37 = .ok (.invokespecial 153, 3) := by decide +kernel
theorem dX5_newBox_40 : decode cX5_newBox 40 = .ok (.goto 11, 3) := by decide +kernel
theorem dX5_newBox_43 : decode cX5_newBox 43 = .ok (.new 119, 3) := by decide +kernel
theorem dX5_newBox_46 : decode cX5_newBox 46 = .ok (.dup, 1) := by decide +kernel
theorem dX5_newBox_47 : decode cX5_newBox 47 = .ok (.iload_n 1, 1) := by decide +kernel
theorem dX5_newBox_48 : decode cX5_newBox 48 = .ok (.invokespecial 155, 3) := by decide +kernel
theorem dX5_newBox_51 : decode cX5_newBox 51 = .ok (.areturn, 1) := by decide +kernel
theorem dX5_boxAt_0 : decode cX5_boxAt 0 = .ok (.aload_n 0, 1) := by decide +kernel
theorem dX5_boxAt_1 : decode cX5_boxAt 1 = .ok (.getfield 26, 3) := by decide +kernel
theorem dX5_boxAt_4 : decode cX5_boxAt 4 = .ok (.invokevirtual 85, 3) := by decide +kernel
theorem dX5_boxAt_7 : decode cX5_boxAt 7 = .ok (.invokestatic 41, 3) := by decide +kernel
theorem dX5_boxAt_10 : decode cX5_boxAt 10 = .ok (.iload_n 1, 1) := by decide +kernel
theorem dX5_boxAt_11 : decode cX5_boxAt 11 = .ok (.aload_n 0, 1) := by decide +kernel
theorem dX5_boxAt_12 : decode cX5_boxAt 12 = .ok (.getfield 26, 3) := by decide +kernel
theorem dX5_boxAt_15 : decode cX5_boxAt 15 = .ok (.invokevirtual 86, 3) := by decide +kernel
theorem dX5_boxAt_18 : decode cX5_boxAt 18 = .ok (.invokestatic 48, 3) := by decide +kernel
theorem dX5_boxAt_21 : decode cX5_boxAt 21 = .ok (.aload_n 0, 1) := by decide +kernel
theorem dX5_boxAt_22 : decode cX5_boxAt 22 = .ok (.getfield 26, 3) := by decide +kernel
theorem dX5_boxAt_25 : decode cX5_boxAt 25 = .ok (.iload_n 1, 1) := by decide +kernel
theorem dX5_boxAt_26 : decode cX5_boxAt 26 = .ok (.invokevirtual 156, 3) := by decide +kernel
theorem dX5_boxAt_29 : decode cX5_boxAt 29 = .ok (.astore_n 2, 1) := by decide +kernel
theorem dX5_boxAt_30 : decode cX5_boxAt 30 = .ok (.aload_n 2, 1) := by decide +kernel
theorem dX5_boxAt_31 : decode cX5_boxAt 31 = .ok (.ifnonnull 13, 3) := by decide +kernel
theorem dX5_boxAt_34 : decode cX5_boxAt 34 = .ok (.new 136, 3) := by decide +kernel
theorem dX5_boxAt_37 : decode cX5_boxAt 37 = .ok (.dup, 1) := by decide +kernel
theorem dX5_boxAt_38 : decode cX5_boxAt 38 = .ok (.ldc 159, 2) := by decide +kernel
theorem dX5_boxAt_40 : decode cX5_boxAt 40 = .ok (.invokespecial 140, 3) := by decide +kernel
theorem dX5_boxAt_43 : decode cX5_boxAt 43 = .ok (.athrow, 1) := by decide +kernel
theorem dX5_boxAt_44 : decode cX5_boxAt 44 = .ok (.aload_n 2, 1) := by decide +kernel
theorem dX5_boxAt_45 : decode cX5_boxAt 45 = .ok (.areturn, 1) := by decide +kernel
theorem dX6_init_0 : decode cX6_init 0 = .ok (.aload_n 0, 1) := by decide +kernel
theorem dX6_init_1 : decode cX6_init 1 = .ok (.invokespecial 1, 3) := by decide +kernel
theorem dX6_init_4 : decode cX6_init 4 = .ok (.aload_n 0, 1) := by decide +kernel
theorem dX6_init_5 : decode cX6_init 5 = .ok (.sipush 320, 3) := by decide +kernel
theorem dX6_init_8 : decode cX6_init 8 = .ok (.newarray .long, 2) := by decide +kernel
theorem dX6_init_10 : decode cX6_init 10 = .ok (.putfield 7, 3) := by decide +kernel
theorem dX6_init_13 : decode cX6_init 13 = .ok (.aload_n 0, 1) := by decide +kernel
theorem dX6_init_14 : decode cX6_init 14 = .ok (.bipush 8, 2) := by decide +kernel
theorem dX6_init_16 : decode cX6_init 16 = .ok (.newarray .int, 2) := by decide +kernel
theorem dX6_init_18 : decode cX6_init 18 = .ok (.putfield 13, 3) := by decide +kernel
theorem dX6_init_21 : decode cX6_init 21 = .ok (.aload_n 0, 1) := by decide +kernel
theorem dX6_init_22 : decode cX6_init 22 = .ok (.bipush 20, 2) := by decide +kernel
theorem dX6_init_24 : decode cX6_init 24 = .ok (.newarray .int, 2) := by decide +kernel
theorem dX6_init_26 : decode cX6_init 26 = .ok (.putfield 17, 3) := by decide +kernel
theorem dX6_init_29 : decode cX6_init 29 = .ok (.aload_n 0, 1) := by decide +kernel
theorem dX6_init_30 : decode cX6_init 30 = .ok (.bipush 20, 2) := by decide +kernel
theorem dX6_init_32 : decode cX6_init 32 = .ok (.newarray .int, 2) := by decide +kernel
theorem dX6_init_34 : decode cX6_init 34 = .ok (.putfield 20, 3) := by decide +kernel
theorem dX6_init_37 : decode cX6_init 37 = .ok (.iconst 0, 1) := by decide +kernel
theorem dX6_init_38 : decode cX6_init 38 = .ok (.istore_n 1, 1) := by decide +kernel
theorem dX6_init_39 : decode cX6_init 39 = .ok (.iload_n 1, 1) := by decide +kernel
theorem dX6_init_40 : decode cX6_init 40 = .ok (.bipush 8, 2) := by decide +kernel
theorem dX6_init_42 : decode cX6_init 42 = .ok (.if_icmp .ge 16, 3) := by decide +kernel
theorem dX6_init_45 : decode cX6_init 45 = .ok (.aload_n 0, 1) := by decide +kernel
theorem dX6_init_46 : decode cX6_init 46 = .ok (.getfield 13, 3) := by decide +kernel
theorem dX6_init_49 : decode cX6_init 49 = .ok (.iload_n 1, 1) := by decide +kernel
theorem dX6_init_50 : decode cX6_init 50 = .ok (.iconst 3, 1) := by decide +kernel
theorem dX6_init_51 : decode cX6_init 51 = .ok (.iastore, 1) := by decide +kernel
theorem dX6_init_52 : decode cX6_init 52 = .ok (.iinc 1 1, 3) := by decide +kernel
theorem dX6_init_55 : decode cX6_init 55 = .ok (.goto (-16), 3) := by decide +kernel
theorem dX6_init_58 : decode cX6_init 58 = .ok (.return_, 1) := by decide +kernel
theorem dX6_thrown_0 : decode cX6_thrown 0 = .ok (.aload_n 0, 1) := by decide +kernel
theorem dX6_thrown_1 : decode cX6_thrown 1 = .ok (.getfield 23, 3) := by decide +kernel
theorem dX6_thrown_4 : decode cX6_thrown 4 = .ok (.ireturn, 1) := by decide +kernel
theorem dX6_fails_0 : decode cX6_fails 0 = .ok (.aload_n 0, 1) := by decide +kernel
theorem dX6_fails_1 : decode cX6_fails 1 = .ok (.iload_n 1, 1) := by decide +kernel
theorem dX6_fails_2 : decode cX6_fails 2 = .ok (.putfield 23, 3) := by decide +kernel
theorem dX6_fails_5 : decode cX6_fails 5 = .ok (.iconst 0, 1) := by decide +kernel
theorem dX6_fails_6 : decode cX6_fails 6 = .ok (.ireturn, 1) := by decide +kernel
theorem dX6_nearest_0 : decode cX6_nearest 0 = .ok (.iload_n 0, 1) := by decide +kernel
theorem dX6_nearest_1 : decode cX6_nearest 1 = .ok (.ifCond .ge 9, 3) := by decide +kernel
theorem dX6_nearest_4 : decode cX6_nearest 4 = .ok (.iload_n 0, 1) := by decide +kernel
theorem dX6_nearest_5 : decode cX6_nearest 5 = .ok (.i2l, 1) := by decide +kernel
theorem dX6_nearest_6 : decode cX6_nearest 6 = .ok (.lneg, 1) := by decide +kernel
theorem dX6_nearest_7 : decode cX6_nearest 7 = .ok (.goto 5, 3) := by decide +kernel
theorem dX6_nearest_10 : decode cX6_nearest 10 = .ok (.iload_n 0, 1) := by decide +kernel
theorem dX6_nearest_11 : decode cX6_nearest 11 = .ok (.i2l, 1) := by decide +kernel
theorem dX6_nearest_12 : decode cX6_nearest 12 = .ok (.lstore_n 1, 1) := by decide +kernel
theorem dX6_nearest_13 : decode cX6_nearest 13 = .ok (.lload_n 1, 1) := by decide +kernel
theorem dX6_nearest_14 : decode cX6_nearest 14 = .ok (.lstore_n 3, 1) := by decide +kernel
theorem dX6_nearest_15 : decode cX6_nearest 15 = .ok (.iconst 0, 1) := by decide +kernel
theorem dX6_nearest_16 : decode cX6_nearest 16 = .ok (.istore 5, 2) := by decide +kernel
theorem dX6_nearest_18 : decode cX6_nearest 18 = .ok (.lload_n 3, 1) := by decide +kernel
theorem dX6_nearest_19 : decode cX6_nearest 19 = .ok (.ldc2_w 27, 3) := by decide +kernel
theorem dX6_nearest_22 : decode cX6_nearest 22 = .ok (.lcmp, 1) := by decide +kernel
theorem dX6_nearest_23 : decode cX6_nearest 23 = .ok (.ifCond .lt 13, 3) := by decide +kernel
theorem dX6_nearest_26 : decode cX6_nearest 26 = .ok (.lload_n 3, 1) := by decide +kernel
theorem dX6_nearest_27 : decode cX6_nearest 27 = .ok (.iconst 1, 1) := by decide +kernel
theorem dX6_nearest_28 : decode cX6_nearest 28 = .ok (.lshr, 1) := by decide +kernel
theorem dX6_nearest_29 : decode cX6_nearest 29 = .ok (.lstore_n 3, 1) := by decide +kernel
theorem dX6_nearest_30 : decode cX6_nearest 30 = .ok (.iinc 5 1, 3) := by decide +kernel
theorem dX6_nearest_33 : decode cX6_nearest 33 = .ok (.goto (-15), 3) := by decide +kernel
theorem dX6_nearest_36 : decode cX6_nearest 36 = .ok (.iload 5, 2) := by decide +kernel
theorem dX6_nearest_38 : decode cX6_nearest 38 = .ok (.ifCond .le 47, 3) := by decide +kernel
theorem dX6_nearest_41 : decode cX6_nearest 41 = .ok (.lload_n 1, 1) := by decide +kernel
theorem dX6_nearest_42 : decode cX6_nearest 42 = .ok (.lload_n 3, 1) := by decide +kernel
theorem dX6_nearest_43 : decode cX6_nearest 43 = .ok (.iload 5, 2) := by decide +kernel
theorem dX6_nearest_45 : decode cX6_nearest 45 = .ok (.lshl, 1) := by decide +kernel
theorem dX6_nearest_46 : decode cX6_nearest 46 = .ok (.lsub, 1) := by decide +kernel
theorem dX6_nearest_47 : decode cX6_nearest 47 = .ok (.lstore 6, 2) := by decide +kernel
theorem dX6_nearest_49 : decode cX6_nearest 49 = .ok (.lconst 1, 1) := by decide +kernel
theorem dX6_nearest_50 : decode cX6_nearest 50 = .ok (.iload 5, 2) := by decide +kernel
theorem dX6_nearest_52 : decode cX6_nearest 52 = .ok (.iconst 1, 1) := by decide +kernel
theorem dX6_nearest_53 : decode cX6_nearest 53 = .ok (.isub, 1) := by decide +kernel
theorem dX6_nearest_54 : decode cX6_nearest 54 = .ok (.lshl, 1) := by decide +kernel
theorem dX6_nearest_55 : decode cX6_nearest 55 = .ok (.lstore 8, 2) := by decide +kernel
theorem dX6_nearest_57 : decode cX6_nearest 57 = .ok (.lload 6, 2) := by decide +kernel
theorem dX6_nearest_59 : decode cX6_nearest 59 = .ok (.lload 8, 2) := by decide +kernel
theorem dX6_nearest_61 : decode cX6_nearest 61 = .ok (.lcmp, 1) := by decide +kernel
theorem dX6_nearest_62 : decode cX6_nearest 62 = .ok (.ifCond .gt 19, 3) := by decide +kernel
theorem dX6_nearest_65 : decode cX6_nearest 65 = .ok (.lload 6, 2) := by decide +kernel
theorem dX6_nearest_67 : decode cX6_nearest 67 = .ok (.lload 8, 2) := by decide +kernel
theorem dX6_nearest_69 : decode cX6_nearest 69 = .ok (.lcmp, 1) := by decide +kernel
theorem dX6_nearest_70 : decode cX6_nearest 70 = .ok (.ifCond .ne 15, 3) := by decide +kernel
theorem dX6_nearest_73 : decode cX6_nearest 73 = .ok (.lload_n 3, 1) := by decide +kernel
theorem dX6_nearest_74 : decode cX6_nearest 74 = .ok (.lconst 1, 1) := by decide +kernel
theorem dX6_nearest_75 : decode cX6_nearest 75 = .ok (.land, 1) := by decide +kernel
theorem dX6_nearest_76 : decode cX6_nearest 76 = .ok (.lconst 1, 1) := by decide +kernel
theorem dX6_nearest_77 : decode cX6_nearest 77 = .ok (.lcmp, 1) := by decide +kernel
theorem dX6_nearest_78 : decode cX6_nearest 78 = .ok (.ifCond .ne 7, 3) := by decide +kernel
theorem dX6_nearest_81 : decode cX6_nearest 81 = .ok (.lload_n 3, 1) := by decide +kernel
theorem dX6_nearest_82 : decode cX6_nearest 82 = .ok (.lconst 1, 1) := by decide +kernel
theorem dX6_nearest_83 : decode cX6_nearest 83 = .ok (.ladd, 1) := by decide +kernel
theorem dX6_nearest_84 : decode cX6_nearest 84 = .ok (.lstore_n 3, 1) := by decide +kernel
theorem dX6_nearest_85 : decode cX6_nearest 85 = .ok (.lload_n 3, 1) := by decide +kernel
theorem dX6_nearest_86 : decode cX6_nearest 86 = .ok (.iload 5, 2) := by decide +kernel
theorem dX6_nearest_88 : decode cX6_nearest 88 = .ok (.lshl, 1) := by decide +kernel
theorem dX6_nearest_89 : decode cX6_nearest 89 = .ok (.lstore_n 1, 1) := by decide +kernel
theorem dX6_nearest_90 : decode cX6_nearest 90 = .ok (.iload_n 0, 1) := by decide +kernel
theorem dX6_nearest_91 : decode cX6_nearest 91 = .ok (.ifCond .ge 8, 3) := by decide +kernel
theorem dX6_nearest_94 : decode cX6_nearest 94 = .ok (.lload_n 1, 1) := by decide +kernel
theorem dX6_nearest_95 : decode cX6_nearest 95 = .ok (.lneg, 1) := by decide +kernel
theorem dX6_nearest_96 : decode cX6_nearest 96 = .ok (.goto 4, 3) := by decide +kernel
theorem dX6_nearest_99 : decode cX6_nearest 99 = .ok (.lload_n 1, 1) := by decide +kernel
theorem dX6_nearest_100 : decode cX6_nearest 100 = .ok (.lreturn, 1) := by decide +kernel
theorem dX6_kept_0 : decode cX6_kept 0 = .ok (.iload_n 0, 1) := by decide +kernel
theorem dX6_kept_1 : decode cX6_kept 1 = .ok (.tableswitch 103 2 6 #[35, 57, 82, 88, 98], 35) := by decide +kernel
theorem dX6_kept_36 : decode cX6_kept 36 = .ok (.iload_n 1, 1) := by decide +kernel
theorem dX6_kept_37 : decode cX6_kept 37 = .ok (.ldc 29, 2) := by decide +kernel
theorem dX6_kept_39 : decode cX6_kept 39 = .ok (.iand, 1) := by decide +kernel
theorem dX6_kept_40 : decode cX6_kept 40 = .ok (.istore_n 2, 1) := by decide +kernel
theorem dX6_kept_41 : decode cX6_kept 41 = .ok (.iload_n 2, 1) := by decide +kernel
theorem dX6_kept_42 : decode cX6_kept 42 = .ok (.ldc 30, 2) := by decide +kernel
theorem dX6_kept_44 : decode cX6_kept 44 = .ok (.if_icmp .ge 8, 3) := by decide +kernel
theorem dX6_kept_47 : decode cX6_kept 47 = .ok (.iload_n 2, 1) := by decide +kernel
theorem dX6_kept_48 : decode cX6_kept 48 = .ok (.i2l, 1) := by decide +kernel
theorem dX6_kept_49 : decode cX6_kept 49 = .ok (.goto 8, 3) := by decide +kernel
theorem dX6_kept_52 : decode cX6_kept 52 = .ok (.iload_n 2, 1) := by decide +kernel
theorem dX6_kept_53 : decode cX6_kept 53 = .ok (.ldc 31, 2) := by decide +kernel
theorem dX6_kept_55 : decode cX6_kept 55 = .ok (.isub, 1) := by decide +kernel
theorem dX6_kept_56 : decode cX6_kept 56 = .ok (.i2l, 1) := by decide +kernel
theorem dX6_kept_57 : decode cX6_kept 57 = .ok (.lreturn, 1) := by decide +kernel
theorem dX6_kept_58 : decode cX6_kept 58 = .ok (.iload_n 1, 1) := by decide +kernel
theorem dX6_kept_59 : decode cX6_kept 59 = .ok (.sipush 255, 3) := by decide +kernel
theorem dX6_kept_62 : decode cX6_kept 62 = .ok (.iand, 1) := by decide +kernel
theorem dX6_kept_63 : decode cX6_kept 63 = .ok (.istore_n 2, 1) := by decide +kernel
theorem dX6_kept_64 : decode cX6_kept 64 = .ok (.iload_n 2, 1) := by decide +kernel
theorem dX6_kept_65 : decode cX6_kept 65 = .ok (.sipush 128, 3) := by decide +kernel
theorem dX6_kept_68 : decode cX6_kept 68 = .ok (.if_icmp .ge 8, 3) := by decide +kernel
theorem dX6_kept_71 : decode cX6_kept 71 = .ok (.iload_n 2, 1) := by decide +kernel
theorem dX6_kept_72 : decode cX6_kept 72 = .ok (.i2l, 1) := by decide +kernel
theorem dX6_kept_73 : decode cX6_kept 73 = .ok (.goto 9, 3) := by decide +kernel
theorem dX6_kept_76 : decode cX6_kept 76 = .ok (.iload_n 2, 1) := by decide +kernel
theorem dX6_kept_77 : decode cX6_kept 77 = .ok (.sipush 256, 3) := by decide +kernel
theorem dX6_kept_80 : decode cX6_kept 80 = .ok (.isub, 1) := by decide +kernel
theorem dX6_kept_81 : decode cX6_kept 81 = .ok (.i2l, 1) := by decide +kernel
theorem dX6_kept_82 : decode cX6_kept 82 = .ok (.lreturn, 1) := by decide +kernel
theorem dX6_kept_83 : decode cX6_kept 83 = .ok (.iload_n 1, 1) := by decide +kernel
theorem dX6_kept_84 : decode cX6_kept 84 = .ok (.ldc 29, 2) := by decide +kernel
theorem dX6_kept_86 : decode cX6_kept 86 = .ok (.iand, 1) := by decide +kernel
theorem dX6_kept_87 : decode cX6_kept 87 = .ok (.i2l, 1) := by decide +kernel
theorem dX6_kept_88 : decode cX6_kept 88 = .ok (.lreturn, 1) := by decide +kernel
theorem dX6_kept_89 : decode cX6_kept 89 = .ok (.iload_n 1, 1) := by decide +kernel
theorem dX6_kept_90 : decode cX6_kept 90 = .ok (.ifCond .eq 7, 3) := by decide +kernel
theorem dX6_kept_93 : decode cX6_kept 93 = .ok (.lconst 1, 1) := by decide +kernel
theorem dX6_kept_94 : decode cX6_kept 94 = .ok (.goto 4, 3) := by decide +kernel
theorem dX6_kept_97 : decode cX6_kept 97 = .ok (.lconst 0, 1) := by decide +kernel
theorem dX6_kept_98 : decode cX6_kept 98 = .ok (.lreturn, 1) := by decide +kernel
theorem dX6_kept_99 : decode cX6_kept 99 = .ok (.iload_n 1, 1) := by decide +kernel
theorem dX6_kept_100 : decode cX6_kept 100 = .ok (.invokestatic 32, 3) := by decide +kernel
theorem dX6_kept_103 : decode cX6_kept 103 = .ok (.lreturn, 1) := by decide +kernel
theorem dX6_kept_104 : decode cX6_kept 104 = .ok (.iload_n 1, 1) := by decide +kernel
theorem dX6_kept_105 : decode cX6_kept 105 = .ok (.i2l, 1) := by decide +kernel
theorem dX6_kept_106 : decode cX6_kept 106 = .ok (.lreturn, 1) := by decide +kernel
theorem dX6_read_0 : decode cX6_read 0 = .ok (.aload_n 0, 1) := by decide +kernel
theorem dX6_read_1 : decode cX6_read 1 = .ok (.iconst 0, 1) := by decide +kernel
theorem dX6_read_2 : decode cX6_read 2 = .ok (.putfield 23, 3) := by decide +kernel
theorem dX6_read_5 : decode cX6_read 5 = .ok (.iload_n 1, 1) := by decide +kernel
theorem dX6_read_6 : decode cX6_read 6 = .ok (.bipush 7, 2) := by decide +kernel
theorem dX6_read_8 : decode cX6_read 8 = .ok (.iand, 1) := by decide +kernel
theorem dX6_read_9 : decode cX6_read 9 = .ok (.istore 4, 2) := by decide +kernel
theorem dX6_read_11 : decode cX6_read 11 = .ok (.iload_n 2, 1) := by decide +kernel
theorem dX6_read_12 : decode cX6_read 12 = .ok (.ifCond .ne 10, 3) := by decide +kernel
theorem dX6_read_15 : decode cX6_read 15 = .ok (.aload_n 0, 1) := by decide +kernel
theorem dX6_read_16 : decode cX6_read 16 = .ok (.iconst 1, 1) := by decide +kernel
theorem dX6_read_17 : decode cX6_read 17 = .ok (.invokevirtual 36, 3) := by decide +kernel
theorem dX6_read_20 : decode cX6_read 20 = .ok (.i2l, 1) := by decide +kernel
theorem dX6_read_21 : decode cX6_read 21 = .ok (.lreturn, 1) := by decide +kernel
theorem dX6_read_22 : decode cX6_read 22 = .ok (.iload_n 3, 1) := by decide +kernel
theorem dX6_read_23 : decode cX6_read 23 = .ok (.ifCond .lt 14, 3) := by decide +kernel
theorem dX6_read_26 : decode cX6_read 26 = .ok (.iload_n 3, 1) := by decide +kernel
theorem dX6_read_27 : decode cX6_read 27 = .ok (.aload_n 0, 1) := by decide +kernel
theorem dX6_read_28 : decode cX6_read 28 = .ok (.getfield 13, 3) := by decide +kernel
theorem dX6_read_31 : decode cX6_read 31 = .ok (.iload 4, 2) := by decide +kernel
theorem dX6_read_33 : decode cX6_read 33 = .ok (.iaload, 1) := by decide +kernel
theorem dX6_read_34 : decode cX6_read 34 = .ok (.if_icmp .lt 10, 3) := by decide +kernel
theorem dX6_read_37 : decode cX6_read 37 = .ok (.aload_n 0, 1) := by decide +kernel
theorem dX6_read_38 : decode cX6_read 38 = .ok (.iconst 2, 1) := by decide +kernel
theorem dX6_read_39 : decode cX6_read 39 = .ok (.invokevirtual 36, 3) := by decide +kernel
theorem dX6_read_42 : decode cX6_read 42 = .ok (.i2l, 1) := by decide +kernel
theorem dX6_read_43 : decode cX6_read 43 = .ok (.lreturn, 1) := by decide +kernel
theorem dX6_read_44 : decode cX6_read 44 = .ok (.aload_n 0, 1) := by decide +kernel
theorem dX6_read_45 : decode cX6_read 45 = .ok (.getfield 7, 3) := by decide +kernel
theorem dX6_read_48 : decode cX6_read 48 = .ok (.bipush 40, 2) := by decide +kernel
theorem dX6_read_50 : decode cX6_read 50 = .ok (.iload 4, 2) := by decide +kernel
theorem dX6_read_52 : decode cX6_read 52 = .ok (.imul, 1) := by decide +kernel
theorem dX6_read_53 : decode cX6_read 53 = .ok (.iload_n 3, 1) := by decide +kernel
theorem dX6_read_54 : decode cX6_read 54 = .ok (.iadd, 1) := by decide +kernel
theorem dX6_read_55 : decode cX6_read 55 = .ok (.laload, 1) := by decide +kernel
theorem dX6_read_56 : decode cX6_read 56 = .ok (.lreturn, 1) := by decide +kernel
theorem dX6_write_0 : decode cX6_write 0 = .ok (.aload_n 0, 1) := by decide +kernel
theorem dX6_write_1 : decode cX6_write 1 = .ok (.iconst 0, 1) := by decide +kernel
theorem dX6_write_2 : decode cX6_write 2 = .ok (.putfield 23, 3) := by decide +kernel
theorem dX6_write_5 : decode cX6_write 5 = .ok (.iload_n 1, 1) := by decide +kernel
theorem dX6_write_6 : decode cX6_write 6 = .ok (.bipush 7, 2) := by decide +kernel
theorem dX6_write_8 : decode cX6_write 8 = .ok (.iand, 1) := by decide +kernel
theorem dX6_write_9 : decode cX6_write 9 = .ok (.istore 5, 2) := by decide +kernel
theorem dX6_write_11 : decode cX6_write 11 = .ok (.iload_n 2, 1) := by decide +kernel
theorem dX6_write_12 : decode cX6_write 12 = .ok (.ifCond .ne 9, 3) := by decide +kernel
theorem dX6_write_15 : decode cX6_write 15 = .ok (.aload_n 0, 1) := by decide +kernel
theorem dX6_write_16 : decode cX6_write 16 = .ok (.iconst 1, 1) := by decide +kernel
theorem dX6_write_17 : decode cX6_write 17 = .ok (.invokevirtual 36, 3) := by decide +kernel
theorem dX6_write_20 : decode cX6_write 20 = .ok (.ireturn, 1) := by decide +kernel
theorem dX6_write_21 : decode cX6_write 21 = .ok (.iload_n 3, 1) := by decide +kernel
theorem dX6_write_22 : decode cX6_write 22 = .ok (.ifCond .lt 14, 3) := by decide +kernel
theorem dX6_write_25 : decode cX6_write 25 = .ok (.iload_n 3, 1) := by decide +kernel
theorem dX6_write_26 : decode cX6_write 26 = .ok (.aload_n 0, 1) := by decide +kernel
theorem dX6_write_27 : decode cX6_write 27 = .ok (.getfield 13, 3) := by decide +kernel
theorem dX6_write_30 : decode cX6_write 30 = .ok (.iload 5, 2) := by decide +kernel
theorem dX6_write_32 : decode cX6_write 32 = .ok (.iaload, 1) := by decide +kernel
theorem dX6_write_33 : decode cX6_write 33 = .ok (.if_icmp .lt 9, 3) := by decide +kernel
theorem dX6_write_36 : decode cX6_write 36 = .ok (.aload_n 0, 1) := by decide +kernel
theorem dX6_write_37 : decode cX6_write 37 = .ok (.iconst 2, 1) := by decide +kernel
theorem dX6_write_38 : decode cX6_write 38 = .ok (.invokevirtual 36, 3) := by decide +kernel
theorem dX6_write_41 : decode cX6_write 41 = .ok (.ireturn, 1) := by decide +kernel
theorem dX6_write_42 : decode cX6_write 42 = .ok (.aload_n 0, 1) := by decide +kernel
theorem dX6_write_43 : decode cX6_write 43 = .ok (.getfield 7, 3) := by decide +kernel
theorem dX6_write_46 : decode cX6_write 46 = .ok (.bipush 40, 2) := by decide +kernel
theorem dX6_write_48 : decode cX6_write 48 = .ok (.iload 5, 2) := by decide +kernel
theorem dX6_write_50 : decode cX6_write 50 = .ok (.imul, 1) := by decide +kernel
theorem dX6_write_51 : decode cX6_write 51 = .ok (.iload_n 3, 1) := by decide +kernel
theorem dX6_write_52 : decode cX6_write 52 = .ok (.iadd, 1) := by decide +kernel
theorem dX6_write_53 : decode cX6_write 53 = .ok (.iload 5, 2) := by decide +kernel
theorem dX6_write_55 : decode cX6_write 55 = .ok (.iload 4, 2) := by decide +kernel
theorem dX6_write_57 : decode cX6_write 57 = .ok (.invokestatic 40, 3) := by decide +kernel
theorem dX6_write_60 : decode cX6_write 60 = .ok (.lastore, 1) := by decide +kernel
theorem dX6_write_61 : decode cX6_write 61 = .ok (.aload_n 0, 1) := by decide +kernel
theorem dX6_write_62 : decode cX6_write 62 = .ok (.dup, 1) := by decide +kernel
theorem dX6_write_63 : decode cX6_write 63 = .ok (.getfield 44, 3) := by decide +kernel
theorem dX6_write_66 : decode cX6_write 66 = .ok (.iconst 1, 1) := by decide +kernel
theorem dX6_write_67 : decode cX6_write 67 = .ok (.iadd, 1) := by decide +kernel
theorem dX6_write_68 : decode cX6_write 68 = .ok (.putfield 44, 3) := by decide +kernel
theorem dX6_write_71 : decode cX6_write 71 = .ok (.aload_n 0, 1) := by decide +kernel
theorem dX6_write_72 : decode cX6_write 72 = .ok (.getfield 44, 3) := by decide +kernel
theorem dX6_write_75 : decode cX6_write 75 = .ok (.ireturn, 1) := by decide +kernel
theorem dX6_length_0 : decode cX6_length 0 = .ok (.aload_n 0, 1) := by decide +kernel
theorem dX6_length_1 : decode cX6_length 1 = .ok (.iconst 0, 1) := by decide +kernel
theorem dX6_length_2 : decode cX6_length 2 = .ok (.putfield 23, 3) := by decide +kernel
theorem dX6_length_5 : decode cX6_length 5 = .ok (.iload_n 2, 1) := by decide +kernel
theorem dX6_length_6 : decode cX6_length 6 = .ok (.ifCond .eq 15, 3) := by decide +kernel
theorem dX6_length_9 : decode cX6_length 9 = .ok (.aload_n 0, 1) := by decide +kernel
theorem dX6_length_10 : decode cX6_length 10 = .ok (.getfield 13, 3) := by decide +kernel
theorem dX6_length_13 : decode cX6_length 13 = .ok (.iload_n 1, 1) := by decide +kernel
theorem dX6_length_14 : decode cX6_length 14 = .ok (.bipush 7, 2) := by decide +kernel
theorem dX6_length_16 : decode cX6_length 16 = .ok (.iand, 1) := by decide +kernel
theorem dX6_length_17 : decode cX6_length 17 = .ok (.iaload, 1) := by decide +kernel
theorem dX6_length_18 : decode cX6_length 18 = .ok (.goto 8, 3) := by decide +kernel
theorem dX6_length_21 : decode cX6_length 21 = .ok (.aload_n 0, 1) := by decide +kernel
theorem dX6_length_22 : decode cX6_length 22 = .ok (.iconst 1, 1) := by decide +kernel
theorem dX6_length_23 : decode cX6_length 23 = .ok (.invokevirtual 36, 3) := by decide +kernel
theorem dX6_length_26 : decode cX6_length 26 = .ok (.ireturn, 1) := by decide +kernel
theorem dX6_make_0 : decode cX6_make 0 = .ok (.aload_n 0, 1) := by decide +kernel
theorem dX6_make_1 : decode cX6_make 1 = .ok (.iconst 0, 1) := by decide +kernel
theorem dX6_make_2 : decode cX6_make 2 = .ok (.putfield 23, 3) := by decide +kernel
theorem dX6_make_5 : decode cX6_make 5 = .ok (.iload_n 2, 1) := by decide +kernel
theorem dX6_make_6 : decode cX6_make 6 = .ok (.bipush 40, 2) := by decide +kernel
theorem dX6_make_8 : decode cX6_make 8 = .ok (.irem, 1) := by decide +kernel
theorem dX6_make_9 : decode cX6_make 9 = .ok (.istore_n 3, 1) := by decide +kernel
theorem dX6_make_10 : decode cX6_make 10 = .ok (.iload_n 1, 1) := by decide +kernel
theorem dX6_make_11 : decode cX6_make 11 = .ok (.bipush 7, 2) := by decide +kernel
theorem dX6_make_13 : decode cX6_make 13 = .ok (.iand, 1) := by decide +kernel
theorem dX6_make_14 : decode cX6_make 14 = .ok (.istore 4, 2) := by decide +kernel
theorem dX6_make_16 : decode cX6_make 16 = .ok (.iload_n 3, 1) := by decide +kernel
theorem dX6_make_17 : decode cX6_make 17 = .ok (.ifCond .ge 9, 3) := by decide +kernel
theorem dX6_make_20 : decode cX6_make 20 = .ok (.aload_n 0, 1) := by decide +kernel
theorem dX6_make_21 : decode cX6_make 21 = .ok (.iconst 1, 1) := by decide +kernel
theorem dX6_make_22 : decode cX6_make 22 = .ok (.invokevirtual 36, 3) := by decide +kernel
theorem dX6_make_25 : decode cX6_make 25 = .ok (.ireturn, 1) := by decide +kernel
theorem dX6_make_26 : decode cX6_make 26 = .ok (.aload_n 0, 1) := by decide +kernel
theorem dX6_make_27 : decode cX6_make 27 = .ok (.getfield 13, 3) := by decide +kernel
theorem dX6_make_30 : decode cX6_make 30 = .ok (.iload 4, 2) := by decide +kernel
theorem dX6_make_32 : decode cX6_make 32 = .ok (.iload_n 3, 1) := by decide +kernel
theorem dX6_make_33 : decode cX6_make 33 = .ok (.iastore, 1) := by decide +kernel
theorem dX6_make_34 : decode cX6_make 34 = .ok (.iconst 0, 1) := by decide +kernel
theorem dX6_make_35 : decode cX6_make 35 = .ok (.istore 5, 2) := by decide +kernel
theorem dX6_make_37 : decode cX6_make 37 = .ok (.iload 5, 2) := by decide +kernel
theorem dX6_make_39 : decode cX6_make 39 = .ok (.bipush 40, 2) := by decide +kernel
theorem dX6_make_41 : decode cX6_make 41 = .ok (.if_icmp .ge 23, 3) := by decide +kernel
theorem dX6_make_44 : decode cX6_make 44 = .ok (.aload_n 0, 1) := by decide +kernel
theorem dX6_make_45 : decode cX6_make 45 = .ok (.getfield 7, 3) := by decide +kernel
theorem dX6_make_48 : decode cX6_make 48 = .ok (.bipush 40, 2) := by decide +kernel
theorem dX6_make_50 : decode cX6_make 50 = .ok (.iload 4, 2) := by decide +kernel
theorem dX6_make_52 : decode cX6_make 52 = .ok (.imul, 1) := by decide +kernel
theorem dX6_make_53 : decode cX6_make 53 = .ok (.iload 5, 2) := by decide +kernel
theorem dX6_make_55 : decode cX6_make 55 = .ok (.iadd, 1) := by decide +kernel
theorem dX6_make_56 : decode cX6_make 56 = .ok (.lconst 0, 1) := by decide +kernel
theorem dX6_make_57 : decode cX6_make 57 = .ok (.lastore, 1) := by decide +kernel
theorem dX6_make_58 : decode cX6_make 58 = .ok (.iinc 5 1, 3) := by decide +kernel
theorem dX6_make_61 : decode cX6_make 61 = .ok (.goto (-24), 3) := by decide +kernel
theorem dX6_make_64 : decode cX6_make 64 = .ok (.iload_n 3, 1) := by decide +kernel
theorem dX6_make_65 : decode cX6_make 65 = .ok (.ireturn, 1) := by decide +kernel
theorem dX6_grid_0 : decode cX6_grid 0 = .ok (.aload_n 0, 1) := by decide +kernel
theorem dX6_grid_1 : decode cX6_grid 1 = .ok (.iconst 0, 1) := by decide +kernel
theorem dX6_grid_2 : decode cX6_grid 2 = .ok (.putfield 23, 3) := by decide +kernel
theorem dX6_grid_5 : decode cX6_grid 5 = .ok (.iload_n 1, 1) := by decide +kernel
theorem dX6_grid_6 : decode cX6_grid 6 = .ok (.bipush 9, 2) := by decide +kernel
theorem dX6_grid_8 : decode cX6_grid 8 = .ok (.irem, 1) := by decide +kernel
theorem dX6_grid_9 : decode cX6_grid 9 = .ok (.istore_n 3, 1) := by decide +kernel
theorem dX6_grid_10 : decode cX6_grid 10 = .ok (.iload_n 2, 1) := by decide +kernel
theorem dX6_grid_11 : decode cX6_grid 11 = .ok (.bipush 9, 2) := by decide +kernel
theorem dX6_grid_13 : decode cX6_grid 13 = .ok (.irem, 1) := by decide +kernel
theorem dX6_grid_14 : decode cX6_grid 14 = .ok (.istore 4, 2) := by decide +kernel
theorem dX6_grid_16 : decode cX6_grid 16 = .ok (.iload_n 3, 1) := by decide +kernel
theorem dX6_grid_17 : decode cX6_grid 17 = .ok (.ifCond .lt 8, 3) := by decide +kernel
theorem dX6_grid_20 : decode cX6_grid 20 = .ok (.iload 4, 2) := by decide +kernel
theorem dX6_grid_22 : decode cX6_grid 22 = .ok (.ifCond .ge 9, 3) := by decide +kernel
theorem dX6_grid_25 : decode cX6_grid 25 = .ok (.aload_n 0, 1) := by decide +kernel
theorem dX6_grid_26 : decode cX6_grid 26 = .ok (.iconst 1, 1) := by decide +kernel
theorem dX6_grid_27 : decode cX6_grid 27 = .ok (.invokevirtual 36, 3) := by decide +kernel
theorem dX6_grid_30 : decode cX6_grid 30 = .ok (.ireturn, 1) := by decide +kernel
theorem dX6_grid_31 : decode cX6_grid 31 = .ok (.aload_n 0, 1) := by decide +kernel
theorem dX6_grid_32 : decode cX6_grid 32 = .ok (.iconst 1, 1) := by decide +kernel
theorem dX6_grid_33 : decode cX6_grid 33 = .ok (.putfield 47, 3) := by decide +kernel
theorem dX6_grid_36 : decode cX6_grid 36 = .ok (.aload_n 0, 1) := by decide +kernel
theorem dX6_grid_37 : decode cX6_grid 37 = .ok (.iload_n 3, 1) := by decide +kernel
theorem dX6_grid_38 : decode cX6_grid 38 = .ok (.putfield 51, 3) := by decide +kernel
theorem dX6_grid_41 : decode cX6_grid 41 = .ok (.aload_n 0, 1) := by decide +kernel
theorem dX6_grid_42 : decode cX6_grid 42 = .ok (.iload 4, 2) := by decide +kernel
theorem dX6_grid_44 : decode cX6_grid 44 = .ok (.putfield 54, 3) := by decide +kernel
theorem dX6_grid_47 : decode cX6_grid 47 = .ok (.iload_n 3, 1) := by decide +kernel
theorem dX6_grid_48 : decode cX6_grid 48 = .ok (.iload 4, 2) := by decide +kernel
theorem dX6_grid_50 : decode cX6_grid 50 = .ok (.imul, 1) := by decide +kernel
theorem dX6_grid_51 : decode cX6_grid 51 = .ok (.ireturn, 1) := by decide +kernel
theorem dX6_cell_0 : decode cX6_cell 0 = .ok (.aload_n 0, 1) := by decide +kernel
theorem dX6_cell_1 : decode cX6_cell 1 = .ok (.iconst 0, 1) := by decide +kernel
theorem dX6_cell_2 : decode cX6_cell 2 = .ok (.putfield 23, 3) := by decide +kernel
theorem dX6_cell_5 : decode cX6_cell 5 = .ok (.aload_n 0, 1) := by decide +kernel
theorem dX6_cell_6 : decode cX6_cell 6 = .ok (.getfield 47, 3) := by decide +kernel
theorem dX6_cell_9 : decode cX6_cell 9 = .ok (.ifCond .ne 9, 3) := by decide +kernel
theorem dX6_cell_12 : decode cX6_cell 12 = .ok (.aload_n 0, 1) := by decide +kernel
theorem dX6_cell_13 : decode cX6_cell 13 = .ok (.iconst 1, 1) := by decide +kernel
theorem dX6_cell_14 : decode cX6_cell 14 = .ok (.invokevirtual 36, 3) := by decide +kernel
theorem dX6_cell_17 : decode cX6_cell 17 = .ok (.ireturn, 1) := by decide +kernel
theorem dX6_cell_18 : decode cX6_cell 18 = .ok (.iload_n 1, 1) := by decide +kernel
theorem dX6_cell_19 : decode cX6_cell 19 = .ok (.ifCond .lt 23, 3) := by decide +kernel
theorem dX6_cell_22 : decode cX6_cell 22 = .ok (.iload_n 1, 1) := by decide +kernel
theorem dX6_cell_23 : decode cX6_cell 23 = .ok (.aload_n 0, 1) := by decide +kernel
theorem dX6_cell_24 : decode cX6_cell 24 = .ok (.getfield 51, 3) := by decide +kernel
theorem dX6_cell_27 : decode cX6_cell 27 = .ok (.if_icmp .ge 15, 3) := by decide +kernel
theorem dX6_cell_30 : decode cX6_cell 30 = .ok (.iload_n 2, 1) := by decide +kernel
theorem dX6_cell_31 : decode cX6_cell 31 = .ok (.ifCond .lt 11, 3) := by decide +kernel
theorem dX6_cell_34 : decode cX6_cell 34 = .ok (.iload_n 2, 1) := by decide +kernel
theorem dX6_cell_35 : decode cX6_cell 35 = .ok (.aload_n 0, 1) := by decide +kernel
theorem dX6_cell_36 : decode cX6_cell 36 = .ok (.getfield 54, 3) := by decide +kernel
theorem dX6_cell_39 : decode cX6_cell 39 = .ok (.if_icmp .lt 9, 3) := by decide +kernel
theorem dX6_cell_42 : decode cX6_cell 42 = .ok (.aload_n 0, 1) := by decide +kernel
theorem dX6_cell_43 : decode cX6_cell 43 = .ok (.iconst 2, 1) := by decide +kernel
theorem dX6_cell_44 : decode cX6_cell 44 = .ok (.invokevirtual 36, 3) := by decide +kernel
theorem dX6_cell_47 : decode cX6_cell 47 = .ok (.ireturn, 1) := by decide +kernel
theorem dX6_cell_48 : decode cX6_cell 48 = .ok (.bipush 10, 2) := by decide +kernel
theorem dX6_cell_50 : decode cX6_cell 50 = .ok (.iload_n 1, 1) := by decide +kernel
theorem dX6_cell_51 : decode cX6_cell 51 = .ok (.imul, 1) := by decide +kernel
theorem dX6_cell_52 : decode cX6_cell 52 = .ok (.iload_n 2, 1) := by decide +kernel
theorem dX6_cell_53 : decode cX6_cell 53 = .ok (.iadd, 1) := by decide +kernel
theorem dX6_cell_54 : decode cX6_cell 54 = .ok (.ireturn, 1) := by decide +kernel
theorem dX6_boxes_0 : decode cX6_boxes 0 = .ok (.aload_n 0, 1) := by decide +kernel
theorem dX6_boxes_1 : decode cX6_boxes 1 = .ok (.iconst 0, 1) := by decide +kernel
theorem dX6_boxes_2 : decode cX6_boxes 2 = .ok (.putfield 23, 3) := by decide +kernel
theorem dX6_boxes_5 : decode cX6_boxes 5 = .ok (.iload_n 1, 1) := by decide +kernel
theorem dX6_boxes_6 : decode cX6_boxes 6 = .ok (.bipush 20, 2) := by decide +kernel
theorem dX6_boxes_8 : decode cX6_boxes 8 = .ok (.irem, 1) := by decide +kernel
theorem dX6_boxes_9 : decode cX6_boxes 9 = .ok (.istore_n 3, 1) := by decide +kernel
theorem dX6_boxes_10 : decode cX6_boxes 10 = .ok (.iload_n 3, 1) := by decide +kernel
theorem dX6_boxes_11 : decode cX6_boxes 11 = .ok (.ifCond .ge 9, 3) := by decide +kernel
theorem dX6_boxes_14 : decode cX6_boxes 14 = .ok (.aload_n 0, 1) := by decide +kernel
theorem dX6_boxes_15 : decode cX6_boxes 15 = .ok (.iconst 1, 1) := by decide +kernel
theorem dX6_boxes_16 : decode cX6_boxes 16 = .ok (.invokevirtual 36, 3) := by decide +kernel
theorem dX6_boxes_19 : decode cX6_boxes 19 = .ok (.ireturn, 1) := by decide +kernel
theorem dX6_boxes_20 : decode cX6_boxes 20 = .ok (.aload_n 0, 1) := by decide +kernel
theorem dX6_boxes_21 : decode cX6_boxes 21 = .ok (.iconst 1, 1) := by decide +kernel
theorem dX6_boxes_22 : decode cX6_boxes 22 = .ok (.putfield 57, 3) := by decide +kernel
theorem dX6_boxes_25 : decode cX6_boxes 25 = .ok (.aload_n 0, 1) := by decide +kernel
theorem dX6_boxes_26 : decode cX6_boxes 26 = .ok (.iload_n 2, 1) := by decide +kernel
theorem dX6_boxes_27 : decode cX6_boxes 27 = .ok (.putfield 60, 3) := by decide +kernel
theorem dX6_boxes_30 : decode cX6_boxes 30 = .ok (.aload_n 0, 1) := by decide +kernel
theorem dX6_boxes_31 : decode cX6_boxes 31 = .ok (.iload_n 3, 1) := by decide +kernel
theorem dX6_boxes_32 : decode cX6_boxes 32 = .ok (.putfield 63, 3) := by decide +kernel
theorem dX6_boxes_35 : decode cX6_boxes 35 = .ok (.iconst 0, 1) := by decide +kernel
theorem dX6_boxes_36 : decode cX6_boxes 36 = .ok (.istore 4, 2) := by decide +kernel
theorem dX6_boxes_38 : decode cX6_boxes 38 = .ok (.iload 4, 2) := by decide +kernel
theorem dX6_boxes_40 : decode cX6_boxes 40 = .ok (.bipush 20, 2) := by decide +kernel
theorem dX6_boxes_42 : decode cX6_boxes 42 = .ok (.if_icmp .ge 17, 3) := by decide +kernel
theorem dX6_boxes_45 : decode cX6_boxes 45 = .ok (.aload_n 0, 1) := by decide +kernel
theorem dX6_boxes_46 : decode cX6_boxes 46 = .ok (.getfield 17, 3) := by decide +kernel
theorem dX6_boxes_49 : decode cX6_boxes 49 = .ok (.iload 4, 2) := by decide +kernel
theorem dX6_boxes_51 : decode cX6_boxes 51 = .ok (.iconst 0, 1) := by decide +kernel
theorem dX6_boxes_52 : decode cX6_boxes 52 = .ok (.iastore, 1) := by decide +kernel
theorem dX6_boxes_53 : decode cX6_boxes 53 = .ok (.iinc 4 1, 3) := by decide +kernel
theorem dX6_boxes_56 : decode cX6_boxes 56 = .ok (.goto (-18), 3) := by decide +kernel
theorem dX6_boxes_59 : decode cX6_boxes 59 = .ok (.iload_n 3, 1) := by decide +kernel
theorem dX6_boxes_60 : decode cX6_boxes 60 = .ok (.ireturn, 1) := by decide +kernel
theorem dX6_put_0 : decode cX6_put 0 = .ok (.aload_n 0, 1) := by decide +kernel
theorem dX6_put_1 : decode cX6_put 1 = .ok (.iconst 0, 1) := by decide +kernel
theorem dX6_put_2 : decode cX6_put 2 = .ok (.putfield 23, 3) := by decide +kernel
theorem dX6_put_5 : decode cX6_put 5 = .ok (.iload_n 3, 1) := by decide +kernel
theorem dX6_put_6 : decode cX6_put 6 = .ok (.iconst 3, 1) := by decide +kernel
theorem dX6_put_7 : decode cX6_put 7 = .ok (.iand, 1) := by decide +kernel
theorem dX6_put_8 : decode cX6_put 8 = .ok (.istore 5, 2) := by decide +kernel
theorem dX6_put_10 : decode cX6_put 10 = .ok (.aload_n 0, 1) := by decide +kernel
theorem dX6_put_11 : decode cX6_put 11 = .ok (.getfield 57, 3) := by decide +kernel
theorem dX6_put_14 : decode cX6_put 14 = .ok (.ifCond .eq 7, 3) := by decide +kernel
theorem dX6_put_17 : decode cX6_put 17 = .ok (.iload_n 1, 1) := by decide +kernel
theorem dX6_put_18 : decode cX6_put 18 = .ok (.ifCond .ne 9, 3) := by decide +kernel
theorem dX6_put_21 : decode cX6_put 21 = .ok (.aload_n 0, 1) := by decide +kernel
theorem dX6_put_22 : decode cX6_put 22 = .ok (.iconst 1, 1) := by decide +kernel
theorem dX6_put_23 : decode cX6_put 23 = .ok (.invokevirtual 36, 3) := by decide +kernel
theorem dX6_put_26 : decode cX6_put 26 = .ok (.ireturn, 1) := by decide +kernel
theorem dX6_put_27 : decode cX6_put 27 = .ok (.iload_n 2, 1) := by decide +kernel
theorem dX6_put_28 : decode cX6_put 28 = .ok (.ifCond .lt 11, 3) := by decide +kernel
theorem dX6_put_31 : decode cX6_put 31 = .ok (.iload_n 2, 1) := by decide +kernel
theorem dX6_put_32 : decode cX6_put 32 = .ok (.aload_n 0, 1) := by decide +kernel
theorem dX6_put_33 : decode cX6_put 33 = .ok (.getfield 63, 3) := by decide +kernel
theorem dX6_put_36 : decode cX6_put 36 = .ok (.if_icmp .lt 9, 3) := by decide +kernel
theorem dX6_put_39 : decode cX6_put 39 = .ok (.aload_n 0, 1) := by decide +kernel
theorem dX6_put_40 : decode cX6_put 40 = .ok (.iconst 2, 1) := by decide +kernel
theorem dX6_put_41 : decode cX6_put 41 = .ok (.invokevirtual 36, 3) := by decide +kernel
theorem dX6_put_44 : decode cX6_put 44 = .ok (.ireturn, 1) := by decide +kernel
theorem dX6_put_45 : decode cX6_put 45 = .ok (.iload 5, 2) := by decide +kernel
theorem dX6_put_47 : decode cX6_put 47 = .ok (.iconst 1, 1) := by decide +kernel
theorem dX6_put_48 : decode cX6_put 48 = .ok (.if_icmp .ne 16, 3) := by decide +kernel
theorem dX6_put_51 : decode cX6_put 51 = .ok (.aload_n 0, 1) := by decide +kernel
theorem dX6_put_52 : decode cX6_put 52 = .ok (.getfield 60, 3) := by decide +kernel
theorem dX6_put_55 : decode cX6_put 55 = .ok (.ifCond .eq 9, 3) := by decide +kernel
theorem dX6_put_58 : decode cX6_put 58 = .ok (.aload_n 0, 1) := by decide +kernel
theorem dX6_put_59 : decode cX6_put 59 = .ok (.iconst 3, 1) := by decide +kernel
theorem dX6_put_60 : decode cX6_put 60 = .ok (.invokevirtual 36, 3) := by decide +kernel
theorem dX6_put_63 : decode cX6_put 63 = .ok (.ireturn, 1) := by decide +kernel
theorem dX6_put_64 : decode cX6_put 64 = .ok (.aload_n 0, 1) := by decide +kernel
theorem dX6_put_65 : decode cX6_put 65 = .ok (.getfield 17, 3) := by decide +kernel
theorem dX6_put_68 : decode cX6_put 68 = .ok (.iload_n 2, 1) := by decide +kernel
theorem dX6_put_69 : decode cX6_put 69 = .ok (.iload 5, 2) := by decide +kernel
theorem dX6_put_71 : decode cX6_put 71 = .ok (.iconst 2, 1) := by decide +kernel
theorem dX6_put_72 : decode cX6_put 72 = .ok (.if_icmp .le 7, 3) := by decide +kernel
theorem dX6_put_75 : decode cX6_put 75 = .ok (.iconst 2, 1) := by decide +kernel
theorem dX6_put_76 : decode cX6_put 76 = .ok (.goto 5, 3) := by decide +kernel
theorem dX6_put_79 : decode cX6_put 79 = .ok (.iload 5, 2) := by decide +kernel
theorem dX6_put_81 : decode cX6_put 81 = .ok (.iastore, 1) := by decide +kernel
theorem dX6_put_82 : decode cX6_put 82 = .ok (.aload_n 0, 1) := by decide +kernel
theorem dX6_put_83 : decode cX6_put 83 = .ok (.getfield 20, 3) := by decide +kernel
theorem dX6_put_86 : decode cX6_put 86 = .ok (.iload_n 2, 1) := by decide +kernel
theorem dX6_put_87 : decode cX6_put 87 = .ok (.iload 4, 2) := by decide +kernel
theorem dX6_put_89 : decode cX6_put 89 = .ok (.iastore, 1) := by decide +kernel
theorem dX6_put_90 : decode cX6_put 90 = .ok (.aload_n 0, 1) := by decide +kernel
theorem dX6_put_91 : decode cX6_put 91 = .ok (.dup, 1) := by decide +kernel
theorem dX6_put_92 : decode cX6_put 92 = .ok (.getfield 66, 3) := by decide +kernel
theorem dX6_put_95 : decode cX6_put 95 = .ok (.iconst 1, 1) := by decide +kernel
theorem dX6_put_96 : decode cX6_put 96 = .ok (.iadd, 1) := by decide +kernel
theorem dX6_put_97 : decode cX6_put 97 = .ok (.putfield 66, 3) := by decide +kernel
theorem dX6_put_100 : decode cX6_put 100 = .ok (.aload_n 0, 1) := by decide +kernel
theorem dX6_put_101 : decode cX6_put 101 = .ok (.getfield 66, 3) := by decide +kernel
theorem dX6_put_104 : decode cX6_put 104 = .ok (.ireturn, 1) := by decide +kernel
theorem dX6_isThere_0 : decode cX6_isThere 0 = .ok (.aload_n 0, 1) := by decide +kernel
theorem dX6_isThere_1 : decode cX6_isThere 1 = .ok (.aload_n 0, 1) := by decide +kernel
theorem dX6_isThere_2 : decode cX6_isThere 2 = .ok (.getfield 57, 3) := by decide +kernel
theorem dX6_isThere_5 : decode cX6_isThere 5 = .ok (.ifCond .ne 7, 3) := by decide +kernel
theorem dX6_isThere_8 : decode cX6_isThere 8 = .ok (.iconst 1, 1) := by decide +kernel
theorem dX6_isThere_9 : decode cX6_isThere 9 = .ok (.goto 33, 3) := by decide +kernel
theorem dX6_isThere_12 : decode cX6_isThere 12 = .ok (.iload_n 1, 1) := by decide +kernel
theorem dX6_isThere_13 : decode cX6_isThere 13 = .ok (.ifCond .lt 11, 3) := by decide +kernel
theorem dX6_isThere_16 : decode cX6_isThere 16 = .ok (.iload_n 1, 1) := by decide +kernel
theorem dX6_isThere_17 : decode cX6_isThere 17 = .ok (.aload_n 0, 1) := by decide +kernel
theorem dX6_isThere_18 : decode cX6_isThere 18 = .ok (.getfield 63, 3) := by decide +kernel
theorem dX6_isThere_21 : decode cX6_isThere 21 = .ok (.if_icmp .lt 7, 3) := by decide +kernel
theorem dX6_isThere_24 : decode cX6_isThere 24 = .ok (.iconst 2, 1) := by decide +kernel
theorem dX6_isThere_25 : decode cX6_isThere 25 = .ok (.goto 17, 3) := by decide +kernel
theorem dX6_isThere_28 : decode cX6_isThere 28 = .ok (.aload_n 0, 1) := by decide +kernel
theorem dX6_isThere_29 : decode cX6_isThere 29 = .ok (.getfield 17, 3) := by decide +kernel
theorem dX6_isThere_32 : decode cX6_isThere 32 = .ok (.iload_n 1, 1) := by decide +kernel
theorem dX6_isThere_33 : decode cX6_isThere 33 = .ok (.iaload, 1) := by decide +kernel
theorem dX6_isThere_34 : decode cX6_isThere 34 = .ok (.ifCond .ne 7, 3) := by decide +kernel
theorem dX6_isThere_37 : decode cX6_isThere 37 = .ok (.iconst 1, 1) := by decide +kernel
theorem dX6_isThere_38 : decode cX6_isThere 38 = .ok (.goto 4, 3) := by decide +kernel
theorem dX6_isThere_41 : decode cX6_isThere 41 = .ok (.iconst 0, 1) := by decide +kernel
theorem dX6_isThere_42 : decode cX6_isThere 42 = .ok (.putfield 23, 3) := by decide +kernel
theorem dX6_isThere_45 : decode cX6_isThere 45 = .ok (.aload_n 0, 1) := by decide +kernel
theorem dX6_isThere_46 : decode cX6_isThere 46 = .ok (.getfield 23, 3) := by decide +kernel
theorem dX6_isThere_49 : decode cX6_isThere 49 = .ok (.ifCond .ne 7, 3) := by decide +kernel
theorem dX6_isThere_52 : decode cX6_isThere 52 = .ok (.iconst 1, 1) := by decide +kernel
theorem dX6_isThere_53 : decode cX6_isThere 53 = .ok (.goto 4, 3) := by decide +kernel
theorem dX6_isThere_56 : decode cX6_isThere 56 = .ok (.iconst 0, 1) := by decide +kernel
theorem dX6_isThere_57 : decode cX6_isThere 57 = .ok (.ireturn, 1) := by decide +kernel
theorem dX6_value_0 : decode cX6_value 0 = .ok (.aload_n 0, 1) := by decide +kernel
theorem dX6_value_1 : decode cX6_value 1 = .ok (.iload_n 1, 1) := by decide +kernel
theorem dX6_value_2 : decode cX6_value 2 = .ok (.invokevirtual 69, 3) := by decide +kernel
theorem dX6_value_5 : decode cX6_value 5 = .ok (.ifCond .eq 12, 3) := by decide +kernel
theorem dX6_value_8 : decode cX6_value 8 = .ok (.aload_n 0, 1) := by decide +kernel
theorem dX6_value_9 : decode cX6_value 9 = .ok (.getfield 20, 3) := by decide +kernel
theorem dX6_value_12 : decode cX6_value 12 = .ok (.iload_n 1, 1) := by decide +kernel
theorem dX6_value_13 : decode cX6_value 13 = .ok (.iaload, 1) := by decide +kernel
theorem dX6_value_14 : decode cX6_value 14 = .ok (.goto 4, 3) := by decide +kernel
theorem dX6_value_17 : decode cX6_value 17 = .ok (.iconst 0, 1) := by decide +kernel
theorem dX6_value_18 : decode cX6_value 18 = .ok (.ireturn, 1) := by decide +kernel
theorem dX6_change_0 : decode cX6_change 0 = .ok (.aload_n 0, 1) := by decide +kernel
theorem dX6_change_1 : decode cX6_change 1 = .ok (.iload_n 1, 1) := by decide +kernel
theorem dX6_change_2 : decode cX6_change 2 = .ok (.invokevirtual 69, 3) := by decide +kernel
theorem dX6_change_5 : decode cX6_change 5 = .ok (.ifCond .ne 5, 3) := by decide +kernel
theorem dX6_change_8 : decode cX6_change 8 = .ok (.iconst 0, 1) := by decide +kernel
theorem dX6_change_9 : decode cX6_change 9 = .ok (.ireturn, 1) := by decide +kernel
theorem dX6_change_10 : decode cX6_change 10 = .ok (.aload_n 0, 1) := by decide +kernel
theorem dX6_change_11 : decode cX6_change 11 = .ok (.getfield 20, 3) := by decide +kernel
theorem dX6_change_14 : decode cX6_change 14 = .ok (.iload_n 1, 1) := by decide +kernel
theorem dX6_change_15 : decode cX6_change 15 = .ok (.iaload, 1) := by decide +kernel
theorem dX6_change_16 : decode cX6_change 16 = .ok (.istore_n 3, 1) := by decide +kernel
theorem dX6_change_17 : decode cX6_change 17 = .ok (.aload_n 0, 1) := by decide +kernel
theorem dX6_change_18 : decode cX6_change 18 = .ok (.getfield 20, 3) := by decide +kernel
theorem dX6_change_21 : decode cX6_change 21 = .ok (.iload_n 1, 1) := by decide +kernel
theorem dX6_change_22 : decode cX6_change 22 = .ok (.iload_n 2, 1) := by decide +kernel
theorem dX6_change_23 : decode cX6_change 23 = .ok (.iastore, 1) := by decide +kernel
theorem dX6_change_24 : decode cX6_change 24 = .ok (.iload_n 3, 1) := by decide +kernel
theorem dX6_change_25 : decode cX6_change 25 = .ok (.ireturn, 1) := by decide +kernel
theorem dX6_weigh_0 : decode cX6_weigh 0 = .ok (.aload_n 0, 1) := by decide +kernel
theorem dX6_weigh_1 : decode cX6_weigh 1 = .ok (.iload_n 1, 1) := by decide +kernel
theorem dX6_weigh_2 : decode cX6_weigh 2 = .ok (.invokevirtual 69, 3) := by decide +kernel
theorem dX6_weigh_5 : decode cX6_weigh 5 = .ok (.ifCond .ne 5, 3) := by decide +kernel
theorem dX6_weigh_8 : decode cX6_weigh 8 = .ok (.iconst 0, 1) := by decide +kernel
theorem dX6_weigh_9 : decode cX6_weigh 9 = .ok (.ireturn, 1) := by decide +kernel
theorem dX6_weigh_10 : decode cX6_weigh 10 = .ok (.aload_n 0, 1) := by decide +kernel
theorem dX6_weigh_11 : decode cX6_weigh 11 = .ok (.getfield 17, 3) := by decide +kernel
theorem dX6_weigh_14 : decode cX6_weigh 14 = .ok (.iload_n 1, 1) := by decide +kernel
theorem dX6_weigh_15 : decode cX6_weigh 15 = .ok (.iaload, 1) := by decide +kernel
theorem dX6_weigh_16 : decode cX6_weigh 16 = .ok (.iconst 1, 1) := by decide +kernel
theorem dX6_weigh_17 : decode cX6_weigh 17 = .ok (.if_icmp .ne 16, 3) := by decide +kernel
theorem dX6_weigh_20 : decode cX6_weigh 20 = .ok (.aload_n 0, 1) := by decide +kernel
theorem dX6_weigh_21 : decode cX6_weigh 21 = .ok (.getfield 20, 3) := by decide +kernel
theorem dX6_weigh_24 : decode cX6_weigh 24 = .ok (.iload_n 1, 1) := by decide +kernel
theorem dX6_weigh_25 : decode cX6_weigh 25 = .ok (.iaload, 1) := by decide +kernel
theorem dX6_weigh_26 : decode cX6_weigh 26 = .ok (.iconst 3, 1) := by decide +kernel
theorem dX6_weigh_27 : decode cX6_weigh 27 = .ok (.imul, 1) := by decide +kernel
theorem dX6_weigh_28 : decode cX6_weigh 28 = .ok (.iload_n 2, 1) := by decide +kernel
theorem dX6_weigh_29 : decode cX6_weigh 29 = .ok (.iadd, 1) := by decide +kernel
theorem dX6_weigh_30 : decode cX6_weigh 30 = .ok (.goto 13, 3) := by decide +kernel
theorem dX6_weigh_33 : decode cX6_weigh 33 = .ok (.aload_n 0, 1) := by decide +kernel
theorem dX6_weigh_34 : decode cX6_weigh 34 = .ok (.getfield 20, 3) := by decide +kernel
theorem dX6_weigh_37 : decode cX6_weigh 37 = .ok (.iload_n 1, 1) := by decide +kernel
theorem dX6_weigh_38 : decode cX6_weigh 38 = .ok (.iaload, 1) := by decide +kernel
theorem dX6_weigh_39 : decode cX6_weigh 39 = .ok (.iconst 5, 1) := by decide +kernel
theorem dX6_weigh_40 : decode cX6_weigh 40 = .ok (.imul, 1) := by decide +kernel
theorem dX6_weigh_41 : decode cX6_weigh 41 = .ok (.iload_n 2, 1) := by decide +kernel
theorem dX6_weigh_42 : decode cX6_weigh 42 = .ok (.isub, 1) := by decide +kernel
theorem dX6_weigh_43 : decode cX6_weigh 43 = .ok (.ireturn, 1) := by decide +kernel
theorem dX6_roll_0 : decode cX6_roll 0 = .ok (.aload_n 0, 1) := by decide +kernel
theorem dX6_roll_1 : decode cX6_roll 1 = .ok (.iload_n 1, 1) := by decide +kernel
theorem dX6_roll_2 : decode cX6_roll 2 = .ok (.invokevirtual 69, 3) := by decide +kernel
theorem dX6_roll_5 : decode cX6_roll 5 = .ok (.ifCond .ne 5, 3) := by decide +kernel
theorem dX6_roll_8 : decode cX6_roll 8 = .ok (.iconst 0, 1) := by decide +kernel
theorem dX6_roll_9 : decode cX6_roll 9 = .ok (.ireturn, 1) := by decide +kernel
theorem dX6_roll_10 : decode cX6_roll 10 = .ok (.aload_n 0, 1) := by decide +kernel
theorem dX6_roll_11 : decode cX6_roll 11 = .ok (.getfield 17, 3) := by decide +kernel
theorem dX6_roll_14 : decode cX6_roll 14 = .ok (.iload_n 1, 1) := by decide +kernel
theorem dX6_roll_15 : decode cX6_roll 15 = .ok (.iaload, 1) := by decide +kernel
theorem dX6_roll_16 : decode cX6_roll 16 = .ok (.iconst 1, 1) := by decide +kernel
theorem dX6_roll_17 : decode cX6_roll 17 = .ok (.if_icmp .ne 11, 3) := by decide +kernel
theorem dX6_roll_20 : decode cX6_roll 20 = .ok (.aload_n 0, 1) := by decide +kernel
theorem dX6_roll_21 : decode cX6_roll 21 = .ok (.iconst 3, 1) := by decide +kernel
theorem dX6_roll_22 : decode cX6_roll 22 = .ok (.invokevirtual 36, 3) := by decide +kernel
theorem dX6_roll_25 : decode cX6_roll 25 = .ok (.goto 11, 3) := by decide +kernel
theorem dX6_roll_28 : decode cX6_roll 28 = .ok (.aload_n 0, 1) := by decide +kernel
theorem dX6_roll_29 : decode cX6_roll 29 = .ok (.getfield 20, 3) := by decide +kernel
theorem dX6_roll_32 : decode cX6_roll 32 = .ok (.iload_n 1, 1) := by decide +kernel
theorem dX6_roll_33 : decode cX6_roll 33 = .ok (.iaload, 1) := by decide +kernel
theorem dX6_roll_34 : decode cX6_roll 34 = .ok (.iload_n 2, 1) := by decide +kernel
theorem dX6_roll_35 : decode cX6_roll 35 = .ok (.ixor, 1) := by decide +kernel
theorem dX6_roll_36 : decode cX6_roll 36 = .ok (.ireturn, 1) := by decide +kernel
theorem dX6_divide_0 : decode cX6_divide 0 = .ok (.aload_n 0, 1) := by decide +kernel
theorem dX6_divide_1 : decode cX6_divide 1 = .ok (.iconst 0, 1) := by decide +kernel
theorem dX6_divide_2 : decode cX6_divide 2 = .ok (.putfield 23, 3) := by decide +kernel
theorem dX6_divide_5 : decode cX6_divide 5 = .ok (.iload_n 2, 1) := by decide +kernel
theorem dX6_divide_6 : decode cX6_divide 6 = .ok (.ifCond .ne 9, 3) := by decide +kernel
theorem dX6_divide_9 : decode cX6_divide 9 = .ok (.aload_n 0, 1) := by decide +kernel
theorem dX6_divide_10 : decode cX6_divide 10 = .ok (.iconst 1, 1) := by decide +kernel
theorem dX6_divide_11 : decode cX6_divide 11 = .ok (.invokevirtual 36, 3) := by decide +kernel
theorem dX6_divide_14 : decode cX6_divide 14 = .ok (.ireturn, 1) := by decide +kernel
theorem dX6_divide_15 : decode cX6_divide 15 = .ok (.iload_n 3, 1) := by decide +kernel
theorem dX6_divide_16 : decode cX6_divide 16 = .ok (.ifCond .eq 9, 3) := by decide +kernel
theorem dX6_divide_19 : decode cX6_divide 19 = .ok (.iload_n 1, 1) := by decide +kernel
theorem dX6_divide_20 : decode cX6_divide 20 = .ok (.iload_n 2, 1) := by decide +kernel
theorem dX6_divide_21 : decode cX6_divide 21 = .ok (.irem, 1) := by decide +kernel
theorem dX6_divide_22 : decode cX6_divide 22 = .ok (.goto 6, 3) := by decide +kernel
theorem dX6_divide_25 : decode cX6_divide 25 = .ok (.iload_n 1, 1) := by decide +kernel
theorem dX6_divide_26 : decode cX6_divide 26 = .ok (.iload_n 2, 1) := by decide +kernel
theorem dX6_divide_27 : decode cX6_divide 27 = .ok (.idiv, 1) := by decide +kernel
theorem dX6_divide_28 : decode cX6_divide 28 = .ok (.ireturn, 1) := by decide +kernel
theorem dX6_divideLong_0 : decode cX6_divideLong 0 = .ok (.aload_n 0, 1) := by decide +kernel
theorem dX6_divideLong_1 : decode cX6_divideLong 1 = .ok (.iconst 0, 1) := by decide +kernel
theorem dX6_divideLong_2 : decode cX6_divideLong 2 = .ok (.putfield 23, 3) := by decide +kernel
theorem dX6_divideLong_5 : decode cX6_divideLong 5 = .ok (.lload_n 3, 1) := by decide +kernel
theorem dX6_divideLong_6 : decode cX6_divideLong 6 = .ok (.lconst 0, 1) := by decide +kernel
theorem dX6_divideLong_7 : decode cX6_divideLong 7 = .ok (.lcmp, 1) := by decide +kernel
theorem dX6_divideLong_8 : decode cX6_divideLong 8 = .ok (.ifCond .ne 10, 3) := by decide +kernel
theorem dX6_divideLong_11 : decode cX6_divideLong 11 = .ok (.aload_n 0, 1) := by decide +kernel
theorem dX6_divideLong_12 : decode cX6_divideLong 12 = .ok (.iconst 1, 1) := by decide +kernel
theorem dX6_divideLong_13 : decode cX6_divideLong 13 = .ok (.invokevirtual 36, 3) := by decide +kernel
theorem dX6_divideLong_16 : decode cX6_divideLong 16 = .ok (.i2l, 1) := by decide +kernel
theorem dX6_divideLong_17 : decode cX6_divideLong 17 = .ok (.lreturn, 1) := by decide +kernel
theorem dX6_divideLong_18 : decode cX6_divideLong 18 = .ok (.iload 5, 2) := by decide +kernel
theorem dX6_divideLong_20 : decode cX6_divideLong 20 = .ok (.ifCond .eq 9, 3) := by decide +kernel
theorem dX6_divideLong_23 : decode cX6_divideLong 23 = .ok (.lload_n 1, 1) := by decide +kernel
theorem dX6_divideLong_24 : decode cX6_divideLong 24 = .ok (.lload_n 3, 1) := by decide +kernel
theorem dX6_divideLong_25 : decode cX6_divideLong 25 = .ok (.lrem, 1) := by decide +kernel
theorem dX6_divideLong_26 : decode cX6_divideLong 26 = .ok (.goto 6, 3) := by decide +kernel
theorem dX6_divideLong_29 : decode cX6_divideLong 29 = .ok (.lload_n 1, 1) := by decide +kernel
theorem dX6_divideLong_30 : decode cX6_divideLong 30 = .ok (.lload_n 3, 1) := by decide +kernel
theorem dX6_divideLong_31 : decode cX6_divideLong 31 = .ok (.ldiv, 1) := by decide +kernel
theorem dX6_divideLong_32 : decode cX6_divideLong 32 = .ok (.lreturn, 1) := by decide +kernel
theorem dX6_raise_0 : decode cX6_raise 0 = .ok (.aload_n 0, 1) := by decide +kernel
theorem dX6_raise_1 : decode cX6_raise 1 = .ok (.iconst 0, 1) := by decide +kernel
theorem dX6_raise_2 : decode cX6_raise 2 = .ok (.putfield 23, 3) := by decide +kernel
theorem dX6_raise_5 : decode cX6_raise 5 = .ok (.iload_n 1, 1) := by decide +kernel
theorem dX6_raise_6 : decode cX6_raise 6 = .ok (.ifCond .eq 11, 3) := by decide +kernel
theorem dX6_raise_9 : decode cX6_raise 9 = .ok (.aload_n 0, 1) := by decide +kernel
theorem dX6_raise_10 : decode cX6_raise 10 = .ok (.iconst 2, 1) := by decide +kernel
theorem dX6_raise_11 : decode cX6_raise 11 = .ok (.invokevirtual 36, 3) := by decide +kernel
theorem dX6_raise_14 : decode cX6_raise 14 = .ok (.goto 8, 3) := by decide +kernel
theorem dX6_raise_17 : decode cX6_raise 17 = .ok (.aload_n 0, 1) := by decide +kernel
theorem dX6_raise_18 : decode cX6_raise 18 = .ok (.iconst 1, 1) := by decide +kernel
theorem dX6_raise_19 : decode cX6_raise 19 = .ok (.invokevirtual 36, 3) := by decide +kernel
theorem dX6_raise_22 : decode cX6_raise 22 = .ok (.ireturn, 1) := by decide +kernel
theorem dL_read_0 : decode cL_read 0 = .ok (.aload 4, 2) := by decide +kernel
theorem dL_read_2 : decode cL_read 2 = .ok (.iconst 0, 1) := by decide +kernel
theorem dL_read_3 : decode cL_read 3 = .ok (.aload_n 0, 1) := by decide +kernel
theorem dL_read_4 : decode cL_read 4 = .ok (.iload_n 1, 1) := by decide +kernel
theorem dL_read_5 : decode cL_read 5 = .ok (.iload_n 2, 1) := by decide +kernel
theorem dL_read_6 : decode cL_read 6 = .ok (.iload_n 3, 1) := by decide +kernel
theorem dL_read_7 : decode cL_read 7 = .ok (.invokevirtual 7, 3) := by decide +kernel
theorem dL_read_10 : decode cL_read 10 = .ok (.lastore, 1) := by decide +kernel
theorem dL_read_11 : decode cL_read 11 = .ok (.goto 11, 3) := by decide +kernel
theorem dL_read_14 : decode cL_read 14 = .ok (.astore 5, 2) := by decide +kernel
theorem dL_read_16 : decode cL_read 16 = .ok (.iconst 1, 1) := by decide +kernel
theorem dL_read_17 : decode cL_read 17 = .ok (.ireturn, 1) := by decide +kernel
theorem dL_read_18 : decode cL_read 18 = .ok (.astore 5, 2) := by decide +kernel
theorem dL_read_20 : decode cL_read 20 = .ok (.iconst 2, 1) := by decide +kernel
theorem dL_read_21 : decode cL_read 21 = .ok (.ireturn, 1) := by decide +kernel
theorem dL_read_22 : decode cL_read 22 = .ok (.iconst 0, 1) := by decide +kernel
theorem dL_read_23 : decode cL_read 23 = .ok (.ireturn, 1) := by decide +kernel
theorem dL_write_0 : decode cL_write 0 = .ok (.aload 5, 2) := by decide +kernel
theorem dL_write_2 : decode cL_write 2 = .ok (.iconst 0, 1) := by decide +kernel
theorem dL_write_3 : decode cL_write 3 = .ok (.aload_n 0, 1) := by decide +kernel
theorem dL_write_4 : decode cL_write 4 = .ok (.iload_n 1, 1) := by decide +kernel
theorem dL_write_5 : decode cL_write 5 = .ok (.iload_n 2, 1) := by decide +kernel
theorem dL_write_6 : decode cL_write 6 = .ok (.iload_n 3, 1) := by decide +kernel
theorem dL_write_7 : decode cL_write 7 = .ok (.iload 4, 2) := by decide +kernel
theorem dL_write_9 : decode cL_write 9 = .ok (.invokevirtual 17, 3) := by decide +kernel
theorem dL_write_12 : decode cL_write 12 = .ok (.i2l, 1) := by decide +kernel
theorem dL_write_13 : decode cL_write 13 = .ok (.lastore, 1) := by decide +kernel
theorem dL_write_14 : decode cL_write 14 = .ok (.goto 11, 3) := by decide +kernel
theorem dL_write_17 : decode cL_write 17 = .ok (.astore 6, 2) := by decide +kernel
theorem dL_write_19 : decode cL_write 19 = .ok (.iconst 1, 1) := by decide +kernel
theorem dL_write_20 : decode cL_write 20 = .ok (.ireturn, 1) := by decide +kernel
theorem dL_write_21 : decode cL_write 21 = .ok (.astore 6, 2) := by decide +kernel
theorem dL_write_23 : decode cL_write 23 = .ok (.iconst 2, 1) := by decide +kernel
theorem dL_write_24 : decode cL_write 24 = .ok (.ireturn, 1) := by decide +kernel
theorem dL_write_25 : decode cL_write 25 = .ok (.iconst 0, 1) := by decide +kernel
theorem dL_write_26 : decode cL_write 26 = .ok (.ireturn, 1) := by decide +kernel
theorem dL_length_0 : decode cL_length 0 = .ok (.aload_n 3, 1) := by decide +kernel
theorem dL_length_1 : decode cL_length 1 = .ok (.iconst 0, 1) := by decide +kernel
theorem dL_length_2 : decode cL_length 2 = .ok (.aload_n 0, 1) := by decide +kernel
theorem dL_length_3 : decode cL_length 3 = .ok (.iload_n 1, 1) := by decide +kernel
theorem dL_length_4 : decode cL_length 4 = .ok (.iload_n 2, 1) := by decide +kernel
theorem dL_length_5 : decode cL_length 5 = .ok (.invokevirtual 21, 3) := by decide +kernel
theorem dL_length_8 : decode cL_length 8 = .ok (.i2l, 1) := by decide +kernel
theorem dL_length_9 : decode cL_length 9 = .ok (.lastore, 1) := by decide +kernel
theorem dL_length_10 : decode cL_length 10 = .ok (.goto 7, 3) := by decide +kernel
theorem dL_length_13 : decode cL_length 13 = .ok (.astore 4, 2) := by decide +kernel
theorem dL_length_15 : decode cL_length 15 = .ok (.iconst 1, 1) := by decide +kernel
theorem dL_length_16 : decode cL_length 16 = .ok (.ireturn, 1) := by decide +kernel
theorem dL_length_17 : decode cL_length 17 = .ok (.iconst 0, 1) := by decide +kernel
theorem dL_length_18 : decode cL_length 18 = .ok (.ireturn, 1) := by decide +kernel
theorem dL_make_0 : decode cL_make 0 = .ok (.aload_n 3, 1) := by decide +kernel
theorem dL_make_1 : decode cL_make 1 = .ok (.iconst 0, 1) := by decide +kernel
theorem dL_make_2 : decode cL_make 2 = .ok (.aload_n 0, 1) := by decide +kernel
theorem dL_make_3 : decode cL_make 3 = .ok (.iload_n 1, 1) := by decide +kernel
theorem dL_make_4 : decode cL_make 4 = .ok (.iload_n 2, 1) := by decide +kernel
theorem dL_make_5 : decode cL_make 5 = .ok (.invokevirtual 25, 3) := by decide +kernel
theorem dL_make_8 : decode cL_make 8 = .ok (.i2l, 1) := by decide +kernel
theorem dL_make_9 : decode cL_make 9 = .ok (.lastore, 1) := by decide +kernel
theorem dL_make_10 : decode cL_make 10 = .ok (.goto 7, 3) := by decide +kernel
theorem dL_make_13 : decode cL_make 13 = .ok (.astore 4, 2) := by decide +kernel
theorem dL_make_15 : decode cL_make 15 = .ok (.iconst 1, 1) := by decide +kernel
theorem dL_make_16 : decode cL_make 16 = .ok (.ireturn, 1) := by decide +kernel
theorem dL_make_17 : decode cL_make 17 = .ok (.iconst 0, 1) := by decide +kernel
theorem dL_make_18 : decode cL_make 18 = .ok (.ireturn, 1) := by decide +kernel
theorem dL_grid_0 : decode cL_grid 0 = .ok (.aload_n 3, 1) := by decide +kernel
theorem dL_grid_1 : decode cL_grid 1 = .ok (.iconst 0, 1) := by decide +kernel
theorem dL_grid_2 : decode cL_grid 2 = .ok (.aload_n 0, 1) := by decide +kernel
theorem dL_grid_3 : decode cL_grid 3 = .ok (.iload_n 1, 1) := by decide +kernel
theorem dL_grid_4 : decode cL_grid 4 = .ok (.iload_n 2, 1) := by decide +kernel
theorem dL_grid_5 : decode cL_grid 5 = .ok (.invokevirtual 31, 3) := by decide +kernel
theorem dL_grid_8 : decode cL_grid 8 = .ok (.i2l, 1) := by decide +kernel
theorem dL_grid_9 : decode cL_grid 9 = .ok (.lastore, 1) := by decide +kernel
theorem dL_grid_10 : decode cL_grid 10 = .ok (.goto 7, 3) := by decide +kernel
theorem dL_grid_13 : decode cL_grid 13 = .ok (.astore 4, 2) := by decide +kernel
theorem dL_grid_15 : decode cL_grid 15 = .ok (.iconst 1, 1) := by decide +kernel
theorem dL_grid_16 : decode cL_grid 16 = .ok (.ireturn, 1) := by decide +kernel
theorem dL_grid_17 : decode cL_grid 17 = .ok (.iconst 0, 1) := by decide +kernel
theorem dL_grid_18 : decode cL_grid 18 = .ok (.ireturn, 1) := by decide +kernel
theorem dL_cell_0 : decode cL_cell 0 = .ok (.aload_n 3, 1) := by decide +kernel
theorem dL_cell_1 : decode cL_cell 1 = .ok (.iconst 0, 1) := by decide +kernel
theorem dL_cell_2 : decode cL_cell 2 = .ok (.aload_n 0, 1) := by decide +kernel
theorem dL_cell_3 : decode cL_cell 3 = .ok (.iload_n 1, 1) := by decide +kernel
theorem dL_cell_4 : decode cL_cell 4 = .ok (.iload_n 2, 1) := by decide +kernel
theorem dL_cell_5 : decode cL_cell 5 = .ok (.invokevirtual 34, 3) := by decide +kernel
theorem dL_cell_8 : decode cL_cell 8 = .ok (.i2l, 1) := by decide +kernel
theorem dL_cell_9 : decode cL_cell 9 = .ok (.lastore, 1) := by decide +kernel
theorem dL_cell_10 : decode cL_cell 10 = .ok (.goto 11, 3) := by decide +kernel
theorem dL_cell_13 : decode cL_cell 13 = .ok (.astore 4, 2) := by decide +kernel
theorem dL_cell_15 : decode cL_cell 15 = .ok (.iconst 1, 1) := by decide +kernel
theorem dL_cell_16 : decode cL_cell 16 = .ok (.ireturn, 1) := by decide +kernel
theorem dL_cell_17 : decode cL_cell 17 = .ok (.astore 4, 2) := by decide +kernel
theorem dL_cell_19 : decode cL_cell 19 = .ok (.iconst 2, 1) := by decide +kernel
theorem dL_cell_20 : decode cL_cell 20 = .ok (.ireturn, 1) := by decide +kernel
theorem dL_cell_21 : decode cL_cell 21 = .ok (.iconst 0, 1) := by decide +kernel
theorem dL_cell_22 : decode cL_cell 22 = .ok (.ireturn, 1) := by decide +kernel
theorem dL_boxes_0 : decode cL_boxes 0 = .ok (.aload_n 3, 1) := by decide +kernel
theorem dL_boxes_1 : decode cL_boxes 1 = .ok (.iconst 0, 1) := by decide +kernel
theorem dL_boxes_2 : decode cL_boxes 2 = .ok (.aload_n 0, 1) := by decide +kernel
theorem dL_boxes_3 : decode cL_boxes 3 = .ok (.iload_n 1, 1) := by decide +kernel
theorem dL_boxes_4 : decode cL_boxes 4 = .ok (.iload_n 2, 1) := by decide +kernel
theorem dL_boxes_5 : decode cL_boxes 5 = .ok (.invokevirtual 37, 3) := by decide +kernel
theorem dL_boxes_8 : decode cL_boxes 8 = .ok (.i2l, 1) := by decide +kernel
theorem dL_boxes_9 : decode cL_boxes 9 = .ok (.lastore, 1) := by decide +kernel
theorem dL_boxes_10 : decode cL_boxes 10 = .ok (.goto 7, 3) := by decide +kernel
theorem dL_boxes_13 : decode cL_boxes 13 = .ok (.astore 4, 2) := by decide +kernel
theorem dL_boxes_15 : decode cL_boxes 15 = .ok (.iconst 1, 1) := by decide +kernel
theorem dL_boxes_16 : decode cL_boxes 16 = .ok (.ireturn, 1) := by decide +kernel
theorem dL_boxes_17 : decode cL_boxes 17 = .ok (.iconst 0, 1) := by decide +kernel
theorem dL_boxes_18 : decode cL_boxes 18 = .ok (.ireturn, 1) := by decide +kernel
theorem dL_put_0 : decode cL_put 0 = .ok (.aload 5, 2) := by decide +kernel
theorem dL_put_2 : decode cL_put 2 = .ok (.iconst 0, 1) := by decide +kernel
theorem dL_put_3 : decode cL_put 3 = .ok (.aload_n 0, 1) := by decide +kernel
theorem dL_put_4 : decode cL_put 4 = .ok (.iload_n 1, 1) := by decide +kernel
theorem dL_put_5 : decode cL_put 5 = .ok (.iload_n 2, 1) := by decide +kernel
theorem dL_put_6 : decode cL_put 6 = .ok (.iload_n 3, 1) := by decide +kernel
theorem dL_put_7 : decode cL_put 7 = .ok (.iload 4, 2) := by decide +kernel
theorem dL_put_9 : decode cL_put 9 = .ok (.invokevirtual 40, 3) := by decide +kernel
theorem dL_put_12 : decode cL_put 12 = .ok (.i2l, 1) := by decide +kernel
theorem dL_put_13 : decode cL_put 13 = .ok (.lastore, 1) := by decide +kernel
theorem dL_put_14 : decode cL_put 14 = .ok (.goto 15, 3) := by decide +kernel
theorem dL_put_17 : decode cL_put 17 = .ok (.astore 6, 2) := by decide +kernel
theorem dL_put_19 : decode cL_put 19 = .ok (.iconst 1, 1) := by decide +kernel
theorem dL_put_20 : decode cL_put 20 = .ok (.ireturn, 1) := by decide +kernel
theorem dL_put_21 : decode cL_put 21 = .ok (.astore 6, 2) := by decide +kernel
theorem dL_put_23 : decode cL_put 23 = .ok (.iconst 2, 1) := by decide +kernel
theorem dL_put_24 : decode cL_put 24 = .ok (.ireturn, 1) := by decide +kernel
theorem dL_put_25 : decode cL_put 25 = .ok (.astore 6, 2) := by decide +kernel
theorem dL_put_27 : decode cL_put 27 = .ok (.iconst 3, 1) := by decide +kernel
theorem dL_put_28 : decode cL_put 28 = .ok (.ireturn, 1) := by decide +kernel
theorem dL_put_29 : decode cL_put 29 = .ok (.iconst 0, 1) := by decide +kernel
theorem dL_put_30 : decode cL_put 30 = .ok (.ireturn, 1) := by decide +kernel
theorem dL_value_0 : decode cL_value 0 = .ok (.aload_n 2, 1) := by decide +kernel
theorem dL_value_1 : decode cL_value 1 = .ok (.iconst 0, 1) := by decide +kernel
theorem dL_value_2 : decode cL_value 2 = .ok (.aload_n 0, 1) := by decide +kernel
theorem dL_value_3 : decode cL_value 3 = .ok (.iload_n 1, 1) := by decide +kernel
theorem dL_value_4 : decode cL_value 4 = .ok (.invokevirtual 46, 3) := by decide +kernel
theorem dL_value_7 : decode cL_value 7 = .ok (.i2l, 1) := by decide +kernel
theorem dL_value_8 : decode cL_value 8 = .ok (.lastore, 1) := by decide +kernel
theorem dL_value_9 : decode cL_value 9 = .ok (.goto 9, 3) := by decide +kernel
theorem dL_value_12 : decode cL_value 12 = .ok (.astore_n 3, 1) := by decide +kernel
theorem dL_value_13 : decode cL_value 13 = .ok (.iconst 1, 1) := by decide +kernel
theorem dL_value_14 : decode cL_value 14 = .ok (.ireturn, 1) := by decide +kernel
theorem dL_value_15 : decode cL_value 15 = .ok (.astore_n 3, 1) := by decide +kernel
theorem dL_value_16 : decode cL_value 16 = .ok (.iconst 2, 1) := by decide +kernel
theorem dL_value_17 : decode cL_value 17 = .ok (.ireturn, 1) := by decide +kernel
theorem dL_value_18 : decode cL_value 18 = .ok (.iconst 0, 1) := by decide +kernel
theorem dL_value_19 : decode cL_value 19 = .ok (.ireturn, 1) := by decide +kernel
theorem dL_change_0 : decode cL_change 0 = .ok (.aload_n 3, 1) := by decide +kernel
theorem dL_change_1 : decode cL_change 1 = .ok (.iconst 0, 1) := by decide +kernel
theorem dL_change_2 : decode cL_change 2 = .ok (.aload_n 0, 1) := by decide +kernel
theorem dL_change_3 : decode cL_change 3 = .ok (.iload_n 1, 1) := by decide +kernel
theorem dL_change_4 : decode cL_change 4 = .ok (.iload_n 2, 1) := by decide +kernel
theorem dL_change_5 : decode cL_change 5 = .ok (.invokevirtual 50, 3) := by decide +kernel
theorem dL_change_8 : decode cL_change 8 = .ok (.i2l, 1) := by decide +kernel
theorem dL_change_9 : decode cL_change 9 = .ok (.lastore, 1) := by decide +kernel
theorem dL_change_10 : decode cL_change 10 = .ok (.goto 11, 3) := by decide +kernel
theorem dL_change_13 : decode cL_change 13 = .ok (.astore 4, 2) := by decide +kernel
theorem dL_change_15 : decode cL_change 15 = .ok (.iconst 1, 1) := by decide +kernel
theorem dL_change_16 : decode cL_change 16 = .ok (.ireturn, 1) := by decide +kernel
theorem dL_change_17 : decode cL_change 17 = .ok (.astore 4, 2) := by decide +kernel
theorem dL_change_19 : decode cL_change 19 = .ok (.iconst 2, 1) := by decide +kernel
theorem dL_change_20 : decode cL_change 20 = .ok (.ireturn, 1) := by decide +kernel
theorem dL_change_21 : decode cL_change 21 = .ok (.iconst 0, 1) := by decide +kernel
theorem dL_change_22 : decode cL_change 22 = .ok (.ireturn, 1) := by decide +kernel
theorem dL_weigh_0 : decode cL_weigh 0 = .ok (.aload_n 3, 1) := by decide +kernel
theorem dL_weigh_1 : decode cL_weigh 1 = .ok (.iconst 0, 1) := by decide +kernel
theorem dL_weigh_2 : decode cL_weigh 2 = .ok (.aload_n 0, 1) := by decide +kernel
theorem dL_weigh_3 : decode cL_weigh 3 = .ok (.iload_n 1, 1) := by decide +kernel
theorem dL_weigh_4 : decode cL_weigh 4 = .ok (.iload_n 2, 1) := by decide +kernel
theorem dL_weigh_5 : decode cL_weigh 5 = .ok (.invokevirtual 53, 3) := by decide +kernel
theorem dL_weigh_8 : decode cL_weigh 8 = .ok (.i2l, 1) := by decide +kernel
theorem dL_weigh_9 : decode cL_weigh 9 = .ok (.lastore, 1) := by decide +kernel
theorem dL_weigh_10 : decode cL_weigh 10 = .ok (.goto 11, 3) := by decide +kernel
theorem dL_weigh_13 : decode cL_weigh 13 = .ok (.astore 4, 2) := by decide +kernel
theorem dL_weigh_15 : decode cL_weigh 15 = .ok (.iconst 1, 1) := by decide +kernel
theorem dL_weigh_16 : decode cL_weigh 16 = .ok (.ireturn, 1) := by decide +kernel
theorem dL_weigh_17 : decode cL_weigh 17 = .ok (.astore 4, 2) := by decide +kernel
theorem dL_weigh_19 : decode cL_weigh 19 = .ok (.iconst 2, 1) := by decide +kernel
theorem dL_weigh_20 : decode cL_weigh 20 = .ok (.ireturn, 1) := by decide +kernel
theorem dL_weigh_21 : decode cL_weigh 21 = .ok (.iconst 0, 1) := by decide +kernel
theorem dL_weigh_22 : decode cL_weigh 22 = .ok (.ireturn, 1) := by decide +kernel
theorem dL_roll_0 : decode cL_roll 0 = .ok (.aload_n 3, 1) := by decide +kernel
theorem dL_roll_1 : decode cL_roll 1 = .ok (.iconst 0, 1) := by decide +kernel
theorem dL_roll_2 : decode cL_roll 2 = .ok (.aload_n 0, 1) := by decide +kernel
theorem dL_roll_3 : decode cL_roll 3 = .ok (.iload_n 1, 1) := by decide +kernel
theorem dL_roll_4 : decode cL_roll 4 = .ok (.iload_n 2, 1) := by decide +kernel
theorem dL_roll_5 : decode cL_roll 5 = .ok (.invokevirtual 56, 3) := by decide +kernel
theorem dL_roll_8 : decode cL_roll 8 = .ok (.i2l, 1) := by decide +kernel
theorem dL_roll_9 : decode cL_roll 9 = .ok (.lastore, 1) := by decide +kernel
theorem dL_roll_10 : decode cL_roll 10 = .ok (.goto 15, 3) := by decide +kernel
theorem dL_roll_13 : decode cL_roll 13 = .ok (.astore 4, 2) := by decide +kernel
theorem dL_roll_15 : decode cL_roll 15 = .ok (.iconst 1, 1) := by decide +kernel
theorem dL_roll_16 : decode cL_roll 16 = .ok (.ireturn, 1) := by decide +kernel
theorem dL_roll_17 : decode cL_roll 17 = .ok (.astore 4, 2) := by decide +kernel
theorem dL_roll_19 : decode cL_roll 19 = .ok (.iconst 2, 1) := by decide +kernel
theorem dL_roll_20 : decode cL_roll 20 = .ok (.ireturn, 1) := by decide +kernel
theorem dL_roll_21 : decode cL_roll 21 = .ok (.astore 4, 2) := by decide +kernel
theorem dL_roll_23 : decode cL_roll 23 = .ok (.iconst 3, 1) := by decide +kernel
theorem dL_roll_24 : decode cL_roll 24 = .ok (.ireturn, 1) := by decide +kernel
theorem dL_roll_25 : decode cL_roll 25 = .ok (.iconst 0, 1) := by decide +kernel
theorem dL_roll_26 : decode cL_roll 26 = .ok (.ireturn, 1) := by decide +kernel
theorem dL_divide_0 : decode cL_divide 0 = .ok (.aload 4, 2) := by decide +kernel
theorem dL_divide_2 : decode cL_divide 2 = .ok (.iconst 0, 1) := by decide +kernel
theorem dL_divide_3 : decode cL_divide 3 = .ok (.aload_n 0, 1) := by decide +kernel
theorem dL_divide_4 : decode cL_divide 4 = .ok (.iload_n 1, 1) := by decide +kernel
theorem dL_divide_5 : decode cL_divide 5 = .ok (.iload_n 2, 1) := by decide +kernel
theorem dL_divide_6 : decode cL_divide 6 = .ok (.iload_n 3, 1) := by decide +kernel
theorem dL_divide_7 : decode cL_divide 7 = .ok (.invokevirtual 61, 3) := by decide +kernel
theorem dL_divide_10 : decode cL_divide 10 = .ok (.i2l, 1) := by decide +kernel
theorem dL_divide_11 : decode cL_divide 11 = .ok (.lastore, 1) := by decide +kernel
theorem dL_divide_12 : decode cL_divide 12 = .ok (.goto 7, 3) := by decide +kernel
theorem dL_divide_15 : decode cL_divide 15 = .ok (.astore 5, 2) := by decide +kernel
theorem dL_divide_17 : decode cL_divide 17 = .ok (.iconst 1, 1) := by decide +kernel
theorem dL_divide_18 : decode cL_divide 18 = .ok (.ireturn, 1) := by decide +kernel
theorem dL_divide_19 : decode cL_divide 19 = .ok (.iconst 0, 1) := by decide +kernel
theorem dL_divide_20 : decode cL_divide 20 = .ok (.ireturn, 1) := by decide +kernel
theorem dL_divideLong_0 : decode cL_divideLong 0 = .ok (.aload 6, 2) := by decide +kernel
theorem dL_divideLong_2 : decode cL_divideLong 2 = .ok (.iconst 0, 1) := by decide +kernel
theorem dL_divideLong_3 : decode cL_divideLong 3 = .ok (.aload_n 0, 1) := by decide +kernel
theorem dL_divideLong_4 : decode cL_divideLong 4 = .ok (.lload_n 1, 1) := by decide +kernel
theorem dL_divideLong_5 : decode cL_divideLong 5 = .ok (.lload_n 3, 1) := by decide +kernel
theorem dL_divideLong_6 : decode cL_divideLong 6 = .ok (.iload 5, 2) := by decide +kernel
theorem dL_divideLong_8 : decode cL_divideLong 8 = .ok (.invokevirtual 67, 3) := by decide +kernel
theorem dL_divideLong_11 : decode cL_divideLong 11 = .ok (.lastore, 1) := by decide +kernel
theorem dL_divideLong_12 : decode cL_divideLong 12 = .ok (.goto 7, 3) := by decide +kernel
theorem dL_divideLong_15 : decode cL_divideLong 15 = .ok (.astore 7, 2) := by decide +kernel
theorem dL_divideLong_17 : decode cL_divideLong 17 = .ok (.iconst 1, 1) := by decide +kernel
theorem dL_divideLong_18 : decode cL_divideLong 18 = .ok (.ireturn, 1) := by decide +kernel
theorem dL_divideLong_19 : decode cL_divideLong 19 = .ok (.iconst 0, 1) := by decide +kernel
theorem dL_divideLong_20 : decode cL_divideLong 20 = .ok (.ireturn, 1) := by decide +kernel
theorem dL_raise_0 : decode cL_raise 0 = .ok (.aload_n 2, 1) := by decide +kernel
theorem dL_raise_1 : decode cL_raise 1 = .ok (.iconst 0, 1) := by decide +kernel
theorem dL_raise_2 : decode cL_raise 2 = .ok (.aload_n 0, 1) := by decide +kernel
theorem dL_raise_3 : decode cL_raise 3 = .ok (.iload_n 1, 1) := by decide +kernel
theorem dL_raise_4 : decode cL_raise 4 = .ok (.invokevirtual 71, 3) := by decide +kernel
theorem dL_raise_7 : decode cL_raise 7 = .ok (.i2l, 1) := by decide +kernel
theorem dL_raise_8 : decode cL_raise 8 = .ok (.lastore, 1) := by decide +kernel
theorem dL_raise_9 : decode cL_raise 9 = .ok (.goto 9, 3) := by decide +kernel
theorem dL_raise_12 : decode cL_raise 12 = .ok (.astore_n 3, 1) := by decide +kernel
theorem dL_raise_13 : decode cL_raise 13 = .ok (.iconst 1, 1) := by decide +kernel
theorem dL_raise_14 : decode cL_raise 14 = .ok (.ireturn, 1) := by decide +kernel
theorem dL_raise_15 : decode cL_raise 15 = .ok (.astore_n 3, 1) := by decide +kernel
theorem dL_raise_16 : decode cL_raise 16 = .ok (.iconst 2, 1) := by decide +kernel
theorem dL_raise_17 : decode cL_raise 17 = .ok (.ireturn, 1) := by decide +kernel
theorem dL_raise_18 : decode cL_raise 18 = .ok (.iconst 0, 1) := by decide +kernel
theorem dL_raise_19 : decode cL_raise 19 = .ok (.ireturn, 1) := by decide +kernel
end
section
theorem dL_law_0 : decode cL_law 0 = .ok (.new 8, 3) := by decide +kernel
theorem dL_law_3 : decode cL_law 3 = .ok (.dup, 1) := by decide +kernel
theorem dL_law_4 : decode cL_law 4 = .ok (.invokespecial 75, 3) := by decide +kernel
theorem dL_law_7 : decode cL_law 7 = .ok (.astore_n 1, 1) := by decide +kernel
theorem dL_law_8 : decode cL_law 8 = .ok (.new 76, 3) := by decide +kernel
theorem dL_law_11 : decode cL_law 11 = .ok (.dup, 1) := by decide +kernel
theorem dL_law_12 : decode cL_law 12 = .ok (.invokespecial 78, 3) := by decide +kernel
theorem dL_law_15 : decode cL_law 15 = .ok (.astore_n 2, 1) := by decide +kernel
theorem dL_law_16 : decode cL_law 16 = .ok (.iconst 1, 1) := by decide +kernel
theorem dL_law_17 : decode cL_law 17 = .ok (.newarray .long, 2) := by decide +kernel
theorem dL_law_19 : decode cL_law 19 = .ok (.astore_n 3, 1) := by decide +kernel
theorem dL_law_20 : decode cL_law 20 = .ok (.iconst 0, 1) := by decide +kernel
theorem dL_law_21 : decode cL_law 21 = .ok (.istore 4, 2) := by decide +kernel
theorem dL_law_23 : decode cL_law 23 = .ok (.iload 4, 2) := by decide +kernel
theorem dL_law_25 : decode cL_law 25 = .ok (.aload_n 0, 1) := by decide +kernel
theorem dL_law_26 : decode cL_law 26 = .ok (.arraylength, 1) := by decide +kernel
theorem dL_law_27 : decode cL_law 27 = .ok (.bipush 6, 2) := by decide +kernel
theorem dL_law_29 : decode cL_law 29 = .ok (.isub, 1) := by decide +kernel
theorem dL_law_30 : decode cL_law 30 = .ok (.if_icmp .gt 1362, 3) := by decide +kernel
theorem dL_law_33 : decode cL_law 33 = .ok (.aload_n 0, 1) := by decide +kernel
theorem dL_law_34 : decode cL_law 34 = .ok (.iload 4, 2) := by decide +kernel
theorem dL_law_36 : decode cL_law 36 = .ok (.iaload, 1) := by decide +kernel
theorem dL_law_37 : decode cL_law 37 = .ok (.bipush 15, 2) := by decide +kernel
theorem dL_law_39 : decode cL_law 39 = .ok (.iand, 1) := by decide +kernel
theorem dL_law_40 : decode cL_law 40 = .ok (.tableswitch 1346 0 14 #[76, 171, 279, 363, 431, 499, 567, 651, 759, 815, 883, 951, 1019, 1115, 1274], 76) := by decide +kernel
theorem dL_law_116 : decode cL_law 116 = .ok (.aload_n 1, 1) := by decide +kernel
theorem dL_law_117 : decode cL_law 117 = .ok (.aload_n 0, 1) := by decide +kernel
theorem dL_law_118 : decode cL_law 118 = .ok (.iload 4, 2) := by decide +kernel
theorem dL_law_120 : decode cL_law 120 = .ok (.iconst 1, 1) := by decide +kernel
theorem dL_law_121 : decode cL_law 121 = .ok (.iadd, 1) := by decide +kernel
theorem dL_law_122 : decode cL_law 122 = .ok (.iaload, 1) := by decide +kernel
theorem dL_law_123 : decode cL_law 123 = .ok (.aload_n 0, 1) := by decide +kernel
theorem dL_law_124 : decode cL_law 124 = .ok (.iload 4, 2) := by decide +kernel
theorem dL_law_126 : decode cL_law 126 = .ok (.iconst 2, 1) := by decide +kernel
theorem dL_law_127 : decode cL_law 127 = .ok (.iadd, 1) := by decide +kernel
theorem dL_law_128 : decode cL_law 128 = .ok (.iaload, 1) := by decide +kernel
theorem dL_law_129 : decode cL_law 129 = .ok (.ifCond .eq 7, 3) := by decide +kernel
theorem dL_law_132 : decode cL_law 132 = .ok (.iconst 1, 1) := by decide +kernel
theorem dL_law_133 : decode cL_law 133 = .ok (.goto 4, 3) := by decide +kernel
theorem dL_law_136 : decode cL_law 136 = .ok (.iconst 0, 1) := by decide +kernel
theorem dL_law_137 : decode cL_law 137 = .ok (.aload_n 0, 1) := by decide +kernel
theorem dL_law_138 : decode cL_law 138 = .ok (.iload 4, 2) := by decide +kernel
theorem dL_law_140 : decode cL_law 140 = .ok (.iconst 3, 1) := by decide +kernel
theorem dL_law_141 : decode cL_law 141 = .ok (.iadd, 1) := by decide +kernel
theorem dL_law_142 : decode cL_law 142 = .ok (.iaload, 1) := by decide +kernel
theorem dL_law_143 : decode cL_law 143 = .ok (.aload_n 3, 1) := by decide +kernel
theorem dL_law_144 : decode cL_law 144 = .ok (.invokestatic 79, 3) := by decide +kernel
theorem dL_law_147 : decode cL_law 147 = .ok (.istore 5, 2) := by decide +kernel
theorem dL_law_149 : decode cL_law 149 = .ok (.aload_n 2, 1) := by decide +kernel
theorem dL_law_150 : decode cL_law 150 = .ok (.aload_n 0, 1) := by decide +kernel
theorem dL_law_151 : decode cL_law 151 = .ok (.iload 4, 2) := by decide +kernel
theorem dL_law_153 : decode cL_law 153 = .ok (.iconst 1, 1) := by decide +kernel
theorem dL_law_154 : decode cL_law 154 = .ok (.iadd, 1) := by decide +kernel
theorem dL_law_155 : decode cL_law 155 = .ok (.iaload, 1) := by decide +kernel
theorem dL_law_156 : decode cL_law 156 = .ok (.aload_n 0, 1) := by decide +kernel
theorem dL_law_157 : decode cL_law 157 = .ok (.iload 4, 2) := by decide +kernel
theorem dL_law_159 : decode cL_law 159 = .ok (.iconst 2, 1) := by decide +kernel
theorem dL_law_160 : decode cL_law 160 = .ok (.iadd, 1) := by decide +kernel
theorem dL_law_161 : decode cL_law 161 = .ok (.iaload, 1) := by decide +kernel
theorem dL_law_162 : decode cL_law 162 = .ok (.ifCond .eq 7, 3) := by decide +kernel
theorem dL_law_165 : decode cL_law 165 = .ok (.iconst 1, 1) := by decide +kernel
theorem dL_law_166 : decode cL_law 166 = .ok (.goto 4, 3) := by decide +kernel
theorem dL_law_169 : decode cL_law 169 = .ok (.iconst 0, 1) := by decide +kernel
theorem dL_law_170 : decode cL_law 170 = .ok (.aload_n 0, 1) := by decide +kernel
theorem dL_law_171 : decode cL_law 171 = .ok (.iload 4, 2) := by decide +kernel
theorem dL_law_173 : decode cL_law 173 = .ok (.iconst 3, 1) := by decide +kernel
theorem dL_law_174 : decode cL_law 174 = .ok (.iadd, 1) := by decide +kernel
theorem dL_law_175 : decode cL_law 175 = .ok (.iaload, 1) := by decide +kernel
theorem dL_law_176 : decode cL_law 176 = .ok (.invokevirtual 84, 3) := by decide +kernel
theorem dL_law_179 : decode cL_law 179 = .ok (.lstore 6, 2) := by decide +kernel
theorem dL_law_181 : decode cL_law 181 = .ok (.aload_n 2, 1) := by decide +kernel
theorem dL_law_182 : decode cL_law 182 = .ok (.invokevirtual 85, 3) := by decide +kernel
theorem dL_law_185 : decode cL_law 185 = .ok (.iload 5, 2) := by decide +kernel
theorem dL_law_187 : decode cL_law 187 = .ok (.if_icmp .eq 5, 3) := by decide +kernel
theorem dL_law_190 : decode cL_law 190 = .ok (.iconst 0, 1) := by decide +kernel
theorem dL_law_191 : decode cL_law 191 = .ok (.ireturn, 1) := by decide +kernel
theorem dL_law_192 : decode cL_law 192 = .ok (.iload 5, 2) := by decide +kernel
theorem dL_law_194 : decode cL_law 194 = .ok (.ifCond .ne 14, 3) := by decide +kernel
theorem dL_law_197 : decode cL_law 197 = .ok (.aload_n 3, 1) := by decide +kernel
theorem dL_law_198 : decode cL_law 198 = .ok (.iconst 0, 1) := by decide +kernel
theorem dL_law_199 : decode cL_law 199 = .ok (.laload, 1) := by decide +kernel
theorem dL_law_200 : decode cL_law 200 = .ok (.lload 6, 2) := by decide +kernel
theorem dL_law_202 : decode cL_law 202 = .ok (.lcmp, 1) := by decide +kernel
theorem dL_law_203 : decode cL_law 203 = .ok (.ifCond .eq 5, 3) := by decide +kernel
theorem dL_law_206 : decode cL_law 206 = .ok (.iconst 0, 1) := by decide +kernel
theorem dL_law_207 : decode cL_law 207 = .ok (.ireturn, 1) := by decide +kernel
theorem dL_law_208 : decode cL_law 208 = .ok (.goto 1178, 3) := by decide +kernel
theorem dL_law_211 : decode cL_law 211 = .ok (.aload_n 1, 1) := by decide +kernel
theorem dL_law_212 : decode cL_law 212 = .ok (.aload_n 0, 1) := by decide +kernel
theorem dL_law_213 : decode cL_law 213 = .ok (.iload 4, 2) := by decide +kernel
theorem dL_law_215 : decode cL_law 215 = .ok (.iconst 1, 1) := by decide +kernel
theorem dL_law_216 : decode cL_law 216 = .ok (.iadd, 1) := by decide +kernel
theorem dL_law_217 : decode cL_law 217 = .ok (.iaload, 1) := by decide +kernel
theorem dL_law_218 : decode cL_law 218 = .ok (.aload_n 0, 1) := by decide +kernel
theorem dL_law_219 : decode cL_law 219 = .ok (.iload 4, 2) := by decide +kernel
theorem dL_law_221 : decode cL_law 221 = .ok (.iconst 2, 1) := by decide +kernel
theorem dL_law_222 : decode cL_law 222 = .ok (.iadd, 1) := by decide +kernel
theorem dL_law_223 : decode cL_law 223 = .ok (.iaload, 1) := by decide +kernel
theorem dL_law_224 : decode cL_law 224 = .ok (.ifCond .eq 7, 3) := by decide +kernel
theorem dL_law_227 : decode cL_law 227 = .ok (.iconst 1, 1) := by decide +kernel
theorem dL_law_228 : decode cL_law 228 = .ok (.goto 4, 3) := by decide +kernel
theorem dL_law_231 : decode cL_law 231 = .ok (.iconst 0, 1) := by decide +kernel
theorem dL_law_232 : decode cL_law 232 = .ok (.aload_n 0, 1) := by decide +kernel
theorem dL_law_233 : decode cL_law 233 = .ok (.iload 4, 2) := by decide +kernel
theorem dL_law_235 : decode cL_law 235 = .ok (.iconst 3, 1) := by decide +kernel
theorem dL_law_236 : decode cL_law 236 = .ok (.iadd, 1) := by decide +kernel
theorem dL_law_237 : decode cL_law 237 = .ok (.iaload, 1) := by decide +kernel
theorem dL_law_238 : decode cL_law 238 = .ok (.aload_n 0, 1) := by decide +kernel
theorem dL_law_239 : decode cL_law 239 = .ok (.iload 4, 2) := by decide +kernel
theorem dL_law_241 : decode cL_law 241 = .ok (.iconst 4, 1) := by decide +kernel
theorem dL_law_242 : decode cL_law 242 = .ok (.iadd, 1) := by decide +kernel
theorem dL_law_243 : decode cL_law 243 = .ok (.iaload, 1) := by decide +kernel
theorem dL_law_244 : decode cL_law 244 = .ok (.aload_n 3, 1) := by decide +kernel
theorem dL_law_245 : decode cL_law 245 = .ok (.invokestatic 89, 3) := by decide +kernel
theorem dL_law_248 : decode cL_law 248 = .ok (.istore 5, 2) := by decide +kernel
theorem dL_law_250 : decode cL_law 250 = .ok (.aload_n 2, 1) := by decide +kernel
theorem dL_law_251 : decode cL_law 251 = .ok (.aload_n 0, 1) := by decide +kernel
theorem dL_law_252 : decode cL_law 252 = .ok (.iload 4, 2) := by decide +kernel
theorem dL_law_254 : decode cL_law 254 = .ok (.iconst 1, 1) := by decide +kernel
theorem dL_law_255 : decode cL_law 255 = .ok (.iadd, 1) := by decide +kernel
theorem dL_law_256 : decode cL_law 256 = .ok (.iaload, 1) := by decide +kernel
theorem dL_law_257 : decode cL_law 257 = .ok (.aload_n 0, 1) := by decide +kernel
theorem dL_law_258 : decode cL_law 258 = .ok (.iload 4, 2) := by decide +kernel
theorem dL_law_260 : decode cL_law 260 = .ok (.iconst 2, 1) := by decide +kernel
theorem dL_law_261 : decode cL_law 261 = .ok (.iadd, 1) := by decide +kernel
theorem dL_law_262 : decode cL_law 262 = .ok (.iaload, 1) := by decide +kernel
theorem dL_law_263 : decode cL_law 263 = .ok (.ifCond .eq 7, 3) := by decide +kernel
theorem dL_law_266 : decode cL_law 266 = .ok (.iconst 1, 1) := by decide +kernel
theorem dL_law_267 : decode cL_law 267 = .ok (.goto 4, 3) := by decide +kernel
theorem dL_law_270 : decode cL_law 270 = .ok (.iconst 0, 1) := by decide +kernel
theorem dL_law_271 : decode cL_law 271 = .ok (.aload_n 0, 1) := by decide +kernel
theorem dL_law_272 : decode cL_law 272 = .ok (.iload 4, 2) := by decide +kernel
theorem dL_law_274 : decode cL_law 274 = .ok (.iconst 3, 1) := by decide +kernel
theorem dL_law_275 : decode cL_law 275 = .ok (.iadd, 1) := by decide +kernel
theorem dL_law_276 : decode cL_law 276 = .ok (.iaload, 1) := by decide +kernel
theorem dL_law_277 : decode cL_law 277 = .ok (.aload_n 0, 1) := by decide +kernel
theorem dL_law_278 : decode cL_law 278 = .ok (.iload 4, 2) := by decide +kernel
theorem dL_law_280 : decode cL_law 280 = .ok (.iconst 4, 1) := by decide +kernel
theorem dL_law_281 : decode cL_law 281 = .ok (.iadd, 1) := by decide +kernel
theorem dL_law_282 : decode cL_law 282 = .ok (.iaload, 1) := by decide +kernel
theorem dL_law_283 : decode cL_law 283 = .ok (.invokevirtual 92, 3) := by decide +kernel
theorem dL_law_286 : decode cL_law 286 = .ok (.istore 6, 2) := by decide +kernel
theorem dL_law_288 : decode cL_law 288 = .ok (.aload_n 2, 1) := by decide +kernel
theorem dL_law_289 : decode cL_law 289 = .ok (.invokevirtual 85, 3) := by decide +kernel
theorem dL_law_292 : decode cL_law 292 = .ok (.iload 5, 2) := by decide +kernel
theorem dL_law_294 : decode cL_law 294 = .ok (.if_icmp .eq 5, 3) := by decide +kernel
theorem dL_law_297 : decode cL_law 297 = .ok (.iconst 0, 1) := by decide +kernel
theorem dL_law_298 : decode cL_law 298 = .ok (.ireturn, 1) := by decide +kernel
theorem dL_law_299 : decode cL_law 299 = .ok (.iload 5, 2) := by decide +kernel
theorem dL_law_301 : decode cL_law 301 = .ok (.ifCond .ne 15, 3) := by decide +kernel
theorem dL_law_304 : decode cL_law 304 = .ok (.aload_n 3, 1) := by decide +kernel
theorem dL_law_305 : decode cL_law 305 = .ok (.iconst 0, 1) := by decide +kernel
theorem dL_law_306 : decode cL_law 306 = .ok (.laload, 1) := by decide +kernel
theorem dL_law_307 : decode cL_law 307 = .ok (.iload 6, 2) := by decide +kernel
theorem dL_law_309 : decode cL_law 309 = .ok (.i2l, 1) := by decide +kernel
theorem dL_law_310 : decode cL_law 310 = .ok (.lcmp, 1) := by decide +kernel
theorem dL_law_311 : decode cL_law 311 = .ok (.ifCond .eq 5, 3) := by decide +kernel
theorem dL_law_314 : decode cL_law 314 = .ok (.iconst 0, 1) := by decide +kernel
theorem dL_law_315 : decode cL_law 315 = .ok (.ireturn, 1) := by decide +kernel
theorem dL_law_316 : decode cL_law 316 = .ok (.goto 1070, 3) := by decide +kernel
theorem dL_law_319 : decode cL_law 319 = .ok (.aload_n 1, 1) := by decide +kernel
theorem dL_law_320 : decode cL_law 320 = .ok (.aload_n 0, 1) := by decide +kernel
theorem dL_law_321 : decode cL_law 321 = .ok (.iload 4, 2) := by decide +kernel
theorem dL_law_323 : decode cL_law 323 = .ok (.iconst 1, 1) := by decide +kernel
theorem dL_law_324 : decode cL_law 324 = .ok (.iadd, 1) := by decide +kernel
theorem dL_law_325 : decode cL_law 325 = .ok (.iaload, 1) := by decide +kernel
theorem dL_law_326 : decode cL_law 326 = .ok (.aload_n 0, 1) := by decide +kernel
theorem dL_law_327 : decode cL_law 327 = .ok (.iload 4, 2) := by decide +kernel
theorem dL_law_329 : decode cL_law 329 = .ok (.iconst 2, 1) := by decide +kernel
theorem dL_law_330 : decode cL_law 330 = .ok (.iadd, 1) := by decide +kernel
theorem dL_law_331 : decode cL_law 331 = .ok (.iaload, 1) := by decide +kernel
theorem dL_law_332 : decode cL_law 332 = .ok (.ifCond .eq 7, 3) := by decide +kernel
theorem dL_law_335 : decode cL_law 335 = .ok (.iconst 1, 1) := by decide +kernel
theorem dL_law_336 : decode cL_law 336 = .ok (.goto 4, 3) := by decide +kernel
theorem dL_law_339 : decode cL_law 339 = .ok (.iconst 0, 1) := by decide +kernel
theorem dL_law_340 : decode cL_law 340 = .ok (.aload_n 3, 1) := by decide +kernel
theorem dL_law_341 : decode cL_law 341 = .ok (.invokestatic 93, 3) := by decide +kernel
theorem dL_law_344 : decode cL_law 344 = .ok (.istore 5, 2) := by decide +kernel
theorem dL_law_346 : decode cL_law 346 = .ok (.aload_n 2, 1) := by decide +kernel
theorem dL_law_347 : decode cL_law 347 = .ok (.aload_n 0, 1) := by decide +kernel
theorem dL_law_348 : decode cL_law 348 = .ok (.iload 4, 2) := by decide +kernel
theorem dL_law_350 : decode cL_law 350 = .ok (.iconst 1, 1) := by decide +kernel
theorem dL_law_351 : decode cL_law 351 = .ok (.iadd, 1) := by decide +kernel
theorem dL_law_352 : decode cL_law 352 = .ok (.iaload, 1) := by decide +kernel
theorem dL_law_353 : decode cL_law 353 = .ok (.aload_n 0, 1) := by decide +kernel
theorem dL_law_354 : decode cL_law 354 = .ok (.iload 4, 2) := by decide +kernel
theorem dL_law_356 : decode cL_law 356 = .ok (.iconst 2, 1) := by decide +kernel
theorem dL_law_357 : decode cL_law 357 = .ok (.iadd, 1) := by decide +kernel
theorem dL_law_358 : decode cL_law 358 = .ok (.iaload, 1) := by decide +kernel
theorem dL_law_359 : decode cL_law 359 = .ok (.ifCond .eq 7, 3) := by decide +kernel
theorem dL_law_362 : decode cL_law 362 = .ok (.iconst 1, 1) := by decide +kernel
theorem dL_law_363 : decode cL_law 363 = .ok (.goto 4, 3) := by decide +kernel
theorem dL_law_366 : decode cL_law 366 = .ok (.iconst 0, 1) := by decide +kernel
theorem dL_law_367 : decode cL_law 367 = .ok (.invokevirtual 96, 3) := by decide +kernel
theorem dL_law_370 : decode cL_law 370 = .ok (.istore 6, 2) := by decide +kernel
theorem dL_law_372 : decode cL_law 372 = .ok (.aload_n 2, 1) := by decide +kernel
theorem dL_law_373 : decode cL_law 373 = .ok (.invokevirtual 85, 3) := by decide +kernel
theorem dL_law_376 : decode cL_law 376 = .ok (.iload 5, 2) := by decide +kernel
theorem dL_law_378 : decode cL_law 378 = .ok (.if_icmp .eq 5, 3) := by decide +kernel
theorem dL_law_381 : decode cL_law 381 = .ok (.iconst 0, 1) := by decide +kernel
theorem dL_law_382 : decode cL_law 382 = .ok (.ireturn, 1) := by decide +kernel
theorem dL_law_383 : decode cL_law 383 = .ok (.iload 5, 2) := by decide +kernel
theorem dL_law_385 : decode cL_law 385 = .ok (.ifCond .ne 15, 3) := by decide +kernel
theorem dL_law_388 : decode cL_law 388 = .ok (.aload_n 3, 1) := by decide +kernel
theorem dL_law_389 : decode cL_law 389 = .ok (.iconst 0, 1) := by decide +kernel
theorem dL_law_390 : decode cL_law 390 = .ok (.laload, 1) := by decide +kernel
theorem dL_law_391 : decode cL_law 391 = .ok (.iload 6, 2) := by decide +kernel
theorem dL_law_393 : decode cL_law 393 = .ok (.i2l, 1) := by decide +kernel
theorem dL_law_394 : decode cL_law 394 = .ok (.lcmp, 1) := by decide +kernel
theorem dL_law_395 : decode cL_law 395 = .ok (.ifCond .eq 5, 3) := by decide +kernel
theorem dL_law_398 : decode cL_law 398 = .ok (.iconst 0, 1) := by decide +kernel
theorem dL_law_399 : decode cL_law 399 = .ok (.ireturn, 1) := by decide +kernel
theorem dL_law_400 : decode cL_law 400 = .ok (.goto 986, 3) := by decide +kernel
theorem dL_law_403 : decode cL_law 403 = .ok (.aload_n 1, 1) := by decide +kernel
theorem dL_law_404 : decode cL_law 404 = .ok (.aload_n 0, 1) := by decide +kernel
theorem dL_law_405 : decode cL_law 405 = .ok (.iload 4, 2) := by decide +kernel
theorem dL_law_407 : decode cL_law 407 = .ok (.iconst 1, 1) := by decide +kernel
theorem dL_law_408 : decode cL_law 408 = .ok (.iadd, 1) := by decide +kernel
theorem dL_law_409 : decode cL_law 409 = .ok (.iaload, 1) := by decide +kernel
theorem dL_law_410 : decode cL_law 410 = .ok (.aload_n 0, 1) := by decide +kernel
theorem dL_law_411 : decode cL_law 411 = .ok (.iload 4, 2) := by decide +kernel
theorem dL_law_413 : decode cL_law 413 = .ok (.iconst 2, 1) := by decide +kernel
theorem dL_law_414 : decode cL_law 414 = .ok (.iadd, 1) := by decide +kernel
theorem dL_law_415 : decode cL_law 415 = .ok (.iaload, 1) := by decide +kernel
theorem dL_law_416 : decode cL_law 416 = .ok (.aload_n 3, 1) := by decide +kernel
theorem dL_law_417 : decode cL_law 417 = .ok (.invokestatic 97, 3) := by decide +kernel
theorem dL_law_420 : decode cL_law 420 = .ok (.istore 5, 2) := by decide +kernel
theorem dL_law_422 : decode cL_law 422 = .ok (.aload_n 2, 1) := by decide +kernel
theorem dL_law_423 : decode cL_law 423 = .ok (.aload_n 0, 1) := by decide +kernel
theorem dL_law_424 : decode cL_law 424 = .ok (.iload 4, 2) := by decide +kernel
theorem dL_law_426 : decode cL_law 426 = .ok (.iconst 1, 1) := by decide +kernel
theorem dL_law_427 : decode cL_law 427 = .ok (.iadd, 1) := by decide +kernel
theorem dL_law_428 : decode cL_law 428 = .ok (.iaload, 1) := by decide +kernel
theorem dL_law_429 : decode cL_law 429 = .ok (.aload_n 0, 1) := by decide +kernel
theorem dL_law_430 : decode cL_law 430 = .ok (.iload 4, 2) := by decide +kernel
theorem dL_law_432 : decode cL_law 432 = .ok (.iconst 2, 1) := by decide +kernel
theorem dL_law_433 : decode cL_law 433 = .ok (.iadd, 1) := by decide +kernel
theorem dL_law_434 : decode cL_law 434 = .ok (.iaload, 1) := by decide +kernel
theorem dL_law_435 : decode cL_law 435 = .ok (.invokevirtual 100, 3) := by decide +kernel
theorem dL_law_438 : decode cL_law 438 = .ok (.istore 6, 2) := by decide +kernel
theorem dL_law_440 : decode cL_law 440 = .ok (.aload_n 2, 1) := by decide +kernel
theorem dL_law_441 : decode cL_law 441 = .ok (.invokevirtual 85, 3) := by decide +kernel
theorem dL_law_444 : decode cL_law 444 = .ok (.iload 5, 2) := by decide +kernel
theorem dL_law_446 : decode cL_law 446 = .ok (.if_icmp .eq 5, 3) := by decide +kernel
theorem dL_law_449 : decode cL_law 449 = .ok (.iconst 0, 1) := by decide +kernel
theorem dL_law_450 : decode cL_law 450 = .ok (.ireturn, 1) := by decide +kernel
theorem dL_law_451 : decode cL_law 451 = .ok (.iload 5, 2) := by decide +kernel
theorem dL_law_453 : decode cL_law 453 = .ok (.ifCond .ne 15, 3) := by decide +kernel
theorem dL_law_456 : decode cL_law 456 = .ok (.aload_n 3, 1) := by decide +kernel
theorem dL_law_457 : decode cL_law 457 = .ok (.iconst 0, 1) := by decide +kernel
theorem dL_law_458 : decode cL_law 458 = .ok (.laload, 1) := by decide +kernel
theorem dL_law_459 : decode cL_law 459 = .ok (.iload 6, 2) := by decide +kernel
theorem dL_law_461 : decode cL_law 461 = .ok (.i2l, 1) := by decide +kernel
theorem dL_law_462 : decode cL_law 462 = .ok (.lcmp, 1) := by decide +kernel
theorem dL_law_463 : decode cL_law 463 = .ok (.ifCond .eq 5, 3) := by decide +kernel
theorem dL_law_466 : decode cL_law 466 = .ok (.iconst 0, 1) := by decide +kernel
theorem dL_law_467 : decode cL_law 467 = .ok (.ireturn, 1) := by decide +kernel
theorem dL_law_468 : decode cL_law 468 = .ok (.goto 918, 3) := by decide +kernel
theorem dL_law_471 : decode cL_law 471 = .ok (.aload_n 1, 1) := by decide +kernel
theorem dL_law_472 : decode cL_law 472 = .ok (.aload_n 0, 1) := by decide +kernel
theorem dL_law_473 : decode cL_law 473 = .ok (.iload 4, 2) := by decide +kernel
theorem dL_law_475 : decode cL_law 475 = .ok (.iconst 1, 1) := by decide +kernel
theorem dL_law_476 : decode cL_law 476 = .ok (.iadd, 1) := by decide +kernel
theorem dL_law_477 : decode cL_law 477 = .ok (.iaload, 1) := by decide +kernel
theorem dL_law_478 : decode cL_law 478 = .ok (.aload_n 0, 1) := by decide +kernel
theorem dL_law_479 : decode cL_law 479 = .ok (.iload 4, 2) := by decide +kernel
theorem dL_law_481 : decode cL_law 481 = .ok (.iconst 2, 1) := by decide +kernel
theorem dL_law_482 : decode cL_law 482 = .ok (.iadd, 1) := by decide +kernel
theorem dL_law_483 : decode cL_law 483 = .ok (.iaload, 1) := by decide +kernel
theorem dL_law_484 : decode cL_law 484 = .ok (.aload_n 3, 1) := by decide +kernel
theorem dL_law_485 : decode cL_law 485 = .ok (.invokestatic 101, 3) := by decide +kernel
theorem dL_law_488 : decode cL_law 488 = .ok (.istore 5, 2) := by decide +kernel
theorem dL_law_490 : decode cL_law 490 = .ok (.aload_n 2, 1) := by decide +kernel
theorem dL_law_491 : decode cL_law 491 = .ok (.aload_n 0, 1) := by decide +kernel
theorem dL_law_492 : decode cL_law 492 = .ok (.iload 4, 2) := by decide +kernel
theorem dL_law_494 : decode cL_law 494 = .ok (.iconst 1, 1) := by decide +kernel
theorem dL_law_495 : decode cL_law 495 = .ok (.iadd, 1) := by decide +kernel
theorem dL_law_496 : decode cL_law 496 = .ok (.iaload, 1) := by decide +kernel
theorem dL_law_497 : decode cL_law 497 = .ok (.aload_n 0, 1) := by decide +kernel
theorem dL_law_498 : decode cL_law 498 = .ok (.iload 4, 2) := by decide +kernel
theorem dL_law_500 : decode cL_law 500 = .ok (.iconst 2, 1) := by decide +kernel
theorem dL_law_501 : decode cL_law 501 = .ok (.iadd, 1) := by decide +kernel
theorem dL_law_502 : decode cL_law 502 = .ok (.iaload, 1) := by decide +kernel
theorem dL_law_503 : decode cL_law 503 = .ok (.invokevirtual 103, 3) := by decide +kernel
theorem dL_law_506 : decode cL_law 506 = .ok (.istore 6, 2) := by decide +kernel
theorem dL_law_508 : decode cL_law 508 = .ok (.aload_n 2, 1) := by decide +kernel
theorem dL_law_509 : decode cL_law 509 = .ok (.invokevirtual 85, 3) := by decide +kernel
theorem dL_law_512 : decode cL_law 512 = .ok (.iload 5, 2) := by decide +kernel
theorem dL_law_514 : decode cL_law 514 = .ok (.if_icmp .eq 5, 3) := by decide +kernel
theorem dL_law_517 : decode cL_law 517 = .ok (.iconst 0, 1) := by decide +kernel
theorem dL_law_518 : decode cL_law 518 = .ok (.ireturn, 1) := by decide +kernel
theorem dL_law_519 : decode cL_law 519 = .ok (.iload 5, 2) := by decide +kernel
theorem dL_law_521 : decode cL_law 521 = .ok (.ifCond .ne 15, 3) := by decide +kernel
theorem dL_law_524 : decode cL_law 524 = .ok (.aload_n 3, 1) := by decide +kernel
theorem dL_law_525 : decode cL_law 525 = .ok (.iconst 0, 1) := by decide +kernel
theorem dL_law_526 : decode cL_law 526 = .ok (.laload, 1) := by decide +kernel
theorem dL_law_527 : decode cL_law 527 = .ok (.iload 6, 2) := by decide +kernel
theorem dL_law_529 : decode cL_law 529 = .ok (.i2l, 1) := by decide +kernel
theorem dL_law_530 : decode cL_law 530 = .ok (.lcmp, 1) := by decide +kernel
theorem dL_law_531 : decode cL_law 531 = .ok (.ifCond .eq 5, 3) := by decide +kernel
theorem dL_law_534 : decode cL_law 534 = .ok (.iconst 0, 1) := by decide +kernel
theorem dL_law_535 : decode cL_law 535 = .ok (.ireturn, 1) := by decide +kernel
theorem dL_law_536 : decode cL_law 536 = .ok (.goto 850, 3) := by decide +kernel
theorem dL_law_539 : decode cL_law 539 = .ok (.aload_n 1, 1) := by decide +kernel
theorem dL_law_540 : decode cL_law 540 = .ok (.aload_n 0, 1) := by decide +kernel
theorem dL_law_541 : decode cL_law 541 = .ok (.iload 4, 2) := by decide +kernel
theorem dL_law_543 : decode cL_law 543 = .ok (.iconst 1, 1) := by decide +kernel
theorem dL_law_544 : decode cL_law 544 = .ok (.iadd, 1) := by decide +kernel
theorem dL_law_545 : decode cL_law 545 = .ok (.iaload, 1) := by decide +kernel
theorem dL_law_546 : decode cL_law 546 = .ok (.aload_n 0, 1) := by decide +kernel
theorem dL_law_547 : decode cL_law 547 = .ok (.iload 4, 2) := by decide +kernel
theorem dL_law_549 : decode cL_law 549 = .ok (.iconst 2, 1) := by decide +kernel
theorem dL_law_550 : decode cL_law 550 = .ok (.iadd, 1) := by decide +kernel
theorem dL_law_551 : decode cL_law 551 = .ok (.iaload, 1) := by decide +kernel
theorem dL_law_552 : decode cL_law 552 = .ok (.aload_n 3, 1) := by decide +kernel
theorem dL_law_553 : decode cL_law 553 = .ok (.invokestatic 104, 3) := by decide +kernel
theorem dL_law_556 : decode cL_law 556 = .ok (.istore 5, 2) := by decide +kernel
theorem dL_law_558 : decode cL_law 558 = .ok (.aload_n 2, 1) := by decide +kernel
theorem dL_law_559 : decode cL_law 559 = .ok (.aload_n 0, 1) := by decide +kernel
theorem dL_law_560 : decode cL_law 560 = .ok (.iload 4, 2) := by decide +kernel
theorem dL_law_562 : decode cL_law 562 = .ok (.iconst 1, 1) := by decide +kernel
theorem dL_law_563 : decode cL_law 563 = .ok (.iadd, 1) := by decide +kernel
theorem dL_law_564 : decode cL_law 564 = .ok (.iaload, 1) := by decide +kernel
theorem dL_law_565 : decode cL_law 565 = .ok (.aload_n 0, 1) := by decide +kernel
theorem dL_law_566 : decode cL_law 566 = .ok (.iload 4, 2) := by decide +kernel
theorem dL_law_568 : decode cL_law 568 = .ok (.iconst 2, 1) := by decide +kernel
theorem dL_law_569 : decode cL_law 569 = .ok (.iadd, 1) := by decide +kernel
theorem dL_law_570 : decode cL_law 570 = .ok (.iaload, 1) := by decide +kernel
theorem dL_law_571 : decode cL_law 571 = .ok (.invokevirtual 106, 3) := by decide +kernel
theorem dL_law_574 : decode cL_law 574 = .ok (.istore 6, 2) := by decide +kernel
theorem dL_law_576 : decode cL_law 576 = .ok (.aload_n 2, 1) := by decide +kernel
theorem dL_law_577 : decode cL_law 577 = .ok (.invokevirtual 85, 3) := by decide +kernel
theorem dL_law_580 : decode cL_law 580 = .ok (.iload 5, 2) := by decide +kernel
theorem dL_law_582 : decode cL_law 582 = .ok (.if_icmp .eq 5, 3) := by decide +kernel
theorem dL_law_585 : decode cL_law 585 = .ok (.iconst 0, 1) := by decide +kernel
theorem dL_law_586 : decode cL_law 586 = .ok (.ireturn, 1) := by decide +kernel
theorem dL_law_587 : decode cL_law 587 = .ok (.iload 5, 2) := by decide +kernel
theorem dL_law_589 : decode cL_law 589 = .ok (.ifCond .ne 15, 3) := by decide +kernel
theorem dL_law_592 : decode cL_law 592 = .ok (.aload_n 3, 1) := by decide +kernel
theorem dL_law_593 : decode cL_law 593 = .ok (.iconst 0, 1) := by decide +kernel
theorem dL_law_594 : decode cL_law 594 = .ok (.laload, 1) := by decide +kernel
theorem dL_law_595 : decode cL_law 595 = .ok (.iload 6, 2) := by decide +kernel
theorem dL_law_597 : decode cL_law 597 = .ok (.i2l, 1) := by decide +kernel
theorem dL_law_598 : decode cL_law 598 = .ok (.lcmp, 1) := by decide +kernel
theorem dL_law_599 : decode cL_law 599 = .ok (.ifCond .eq 5, 3) := by decide +kernel
theorem dL_law_602 : decode cL_law 602 = .ok (.iconst 0, 1) := by decide +kernel
theorem dL_law_603 : decode cL_law 603 = .ok (.ireturn, 1) := by decide +kernel
theorem dL_law_604 : decode cL_law 604 = .ok (.goto 782, 3) := by decide +kernel
theorem dL_law_607 : decode cL_law 607 = .ok (.aload_n 1, 1) := by decide +kernel
theorem dL_law_608 : decode cL_law 608 = .ok (.aload_n 0, 1) := by decide +kernel
theorem dL_law_609 : decode cL_law 609 = .ok (.iload 4, 2) := by decide +kernel
theorem dL_law_611 : decode cL_law 611 = .ok (.iconst 1, 1) := by decide +kernel
theorem dL_law_612 : decode cL_law 612 = .ok (.iadd, 1) := by decide +kernel
theorem dL_law_613 : decode cL_law 613 = .ok (.iaload, 1) := by decide +kernel
theorem dL_law_614 : decode cL_law 614 = .ok (.aload_n 0, 1) := by decide +kernel
theorem dL_law_615 : decode cL_law 615 = .ok (.iload 4, 2) := by decide +kernel
theorem dL_law_617 : decode cL_law 617 = .ok (.iconst 2, 1) := by decide +kernel
theorem dL_law_618 : decode cL_law 618 = .ok (.iadd, 1) := by decide +kernel
theorem dL_law_619 : decode cL_law 619 = .ok (.iaload, 1) := by decide +kernel
theorem dL_law_620 : decode cL_law 620 = .ok (.ifCond .eq 7, 3) := by decide +kernel
theorem dL_law_623 : decode cL_law 623 = .ok (.iconst 1, 1) := by decide +kernel
theorem dL_law_624 : decode cL_law 624 = .ok (.goto 4, 3) := by decide +kernel
theorem dL_law_627 : decode cL_law 627 = .ok (.iconst 0, 1) := by decide +kernel
theorem dL_law_628 : decode cL_law 628 = .ok (.aload_n 3, 1) := by decide +kernel
theorem dL_law_629 : decode cL_law 629 = .ok (.invokestatic 107, 3) := by decide +kernel
theorem dL_law_632 : decode cL_law 632 = .ok (.istore 5, 2) := by decide +kernel
theorem dL_law_634 : decode cL_law 634 = .ok (.aload_n 2, 1) := by decide +kernel
theorem dL_law_635 : decode cL_law 635 = .ok (.aload_n 0, 1) := by decide +kernel
theorem dL_law_636 : decode cL_law 636 = .ok (.iload 4, 2) := by decide +kernel
theorem dL_law_638 : decode cL_law 638 = .ok (.iconst 1, 1) := by decide +kernel
theorem dL_law_639 : decode cL_law 639 = .ok (.iadd, 1) := by decide +kernel
theorem dL_law_640 : decode cL_law 640 = .ok (.iaload, 1) := by decide +kernel
theorem dL_law_641 : decode cL_law 641 = .ok (.aload_n 0, 1) := by decide +kernel
theorem dL_law_642 : decode cL_law 642 = .ok (.iload 4, 2) := by decide +kernel
theorem dL_law_644 : decode cL_law 644 = .ok (.iconst 2, 1) := by decide +kernel
theorem dL_law_645 : decode cL_law 645 = .ok (.iadd, 1) := by decide +kernel
theorem dL_law_646 : decode cL_law 646 = .ok (.iaload, 1) := by decide +kernel
theorem dL_law_647 : decode cL_law 647 = .ok (.ifCond .eq 7, 3) := by decide +kernel
theorem dL_law_650 : decode cL_law 650 = .ok (.iconst 1, 1) := by decide +kernel
theorem dL_law_651 : decode cL_law 651 = .ok (.goto 4, 3) := by decide +kernel
theorem dL_law_654 : decode cL_law 654 = .ok (.iconst 0, 1) := by decide +kernel
theorem dL_law_655 : decode cL_law 655 = .ok (.invokevirtual 109, 3) := by decide +kernel
theorem dL_law_658 : decode cL_law 658 = .ok (.istore 6, 2) := by decide +kernel
theorem dL_law_660 : decode cL_law 660 = .ok (.aload_n 2, 1) := by decide +kernel
theorem dL_law_661 : decode cL_law 661 = .ok (.invokevirtual 85, 3) := by decide +kernel
theorem dL_law_664 : decode cL_law 664 = .ok (.iload 5, 2) := by decide +kernel
theorem dL_law_666 : decode cL_law 666 = .ok (.if_icmp .eq 5, 3) := by decide +kernel
theorem dL_law_669 : decode cL_law 669 = .ok (.iconst 0, 1) := by decide +kernel
theorem dL_law_670 : decode cL_law 670 = .ok (.ireturn, 1) := by decide +kernel
theorem dL_law_671 : decode cL_law 671 = .ok (.iload 5, 2) := by decide +kernel
theorem dL_law_673 : decode cL_law 673 = .ok (.ifCond .ne 15, 3) := by decide +kernel
theorem dL_law_676 : decode cL_law 676 = .ok (.aload_n 3, 1) := by decide +kernel
theorem dL_law_677 : decode cL_law 677 = .ok (.iconst 0, 1) := by decide +kernel
theorem dL_law_678 : decode cL_law 678 = .ok (.laload, 1) := by decide +kernel
theorem dL_law_679 : decode cL_law 679 = .ok (.iload 6, 2) := by decide +kernel
theorem dL_law_681 : decode cL_law 681 = .ok (.i2l, 1) := by decide +kernel
theorem dL_law_682 : decode cL_law 682 = .ok (.lcmp, 1) := by decide +kernel
theorem dL_law_683 : decode cL_law 683 = .ok (.ifCond .eq 5, 3) := by decide +kernel
theorem dL_law_686 : decode cL_law 686 = .ok (.iconst 0, 1) := by decide +kernel
theorem dL_law_687 : decode cL_law 687 = .ok (.ireturn, 1) := by decide +kernel
theorem dL_law_688 : decode cL_law 688 = .ok (.goto 698, 3) := by decide +kernel
theorem dL_law_691 : decode cL_law 691 = .ok (.aload_n 1, 1) := by decide +kernel
theorem dL_law_692 : decode cL_law 692 = .ok (.aload_n 0, 1) := by decide +kernel
theorem dL_law_693 : decode cL_law 693 = .ok (.iload 4, 2) := by decide +kernel
theorem dL_law_695 : decode cL_law 695 = .ok (.iconst 1, 1) := by decide +kernel
theorem dL_law_696 : decode cL_law 696 = .ok (.iadd, 1) := by decide +kernel
theorem dL_law_697 : decode cL_law 697 = .ok (.iaload, 1) := by decide +kernel
theorem dL_law_698 : decode cL_law 698 = .ok (.ifCond .eq 7, 3) := by decide +kernel
theorem dL_law_701 : decode cL_law 701 = .ok (.iconst 1, 1) := by decide +kernel
theorem dL_law_702 : decode cL_law 702 = .ok (.goto 4, 3) := by decide +kernel
theorem dL_law_705 : decode cL_law 705 = .ok (.iconst 0, 1) := by decide +kernel
theorem dL_law_706 : decode cL_law 706 = .ok (.aload_n 0, 1) := by decide +kernel
theorem dL_law_707 : decode cL_law 707 = .ok (.iload 4, 2) := by decide +kernel
theorem dL_law_709 : decode cL_law 709 = .ok (.iconst 2, 1) := by decide +kernel
theorem dL_law_710 : decode cL_law 710 = .ok (.iadd, 1) := by decide +kernel
theorem dL_law_711 : decode cL_law 711 = .ok (.iaload, 1) := by decide +kernel
theorem dL_law_712 : decode cL_law 712 = .ok (.aload_n 0, 1) := by decide +kernel
theorem dL_law_713 : decode cL_law 713 = .ok (.iload 4, 2) := by decide +kernel
theorem dL_law_715 : decode cL_law 715 = .ok (.iconst 3, 1) := by decide +kernel
theorem dL_law_716 : decode cL_law 716 = .ok (.iadd, 1) := by decide +kernel
theorem dL_law_717 : decode cL_law 717 = .ok (.iaload, 1) := by decide +kernel
theorem dL_law_718 : decode cL_law 718 = .ok (.aload_n 0, 1) := by decide +kernel
theorem dL_law_719 : decode cL_law 719 = .ok (.iload 4, 2) := by decide +kernel
theorem dL_law_721 : decode cL_law 721 = .ok (.iconst 4, 1) := by decide +kernel
theorem dL_law_722 : decode cL_law 722 = .ok (.iadd, 1) := by decide +kernel
theorem dL_law_723 : decode cL_law 723 = .ok (.iaload, 1) := by decide +kernel
theorem dL_law_724 : decode cL_law 724 = .ok (.aload_n 3, 1) := by decide +kernel
theorem dL_law_725 : decode cL_law 725 = .ok (.invokestatic 110, 3) := by decide +kernel
theorem dL_law_728 : decode cL_law 728 = .ok (.istore 5, 2) := by decide +kernel
theorem dL_law_730 : decode cL_law 730 = .ok (.aload_n 2, 1) := by decide +kernel
theorem dL_law_731 : decode cL_law 731 = .ok (.aload_n 0, 1) := by decide +kernel
theorem dL_law_732 : decode cL_law 732 = .ok (.iload 4, 2) := by decide +kernel
theorem dL_law_734 : decode cL_law 734 = .ok (.iconst 1, 1) := by decide +kernel
theorem dL_law_735 : decode cL_law 735 = .ok (.iadd, 1) := by decide +kernel
theorem dL_law_736 : decode cL_law 736 = .ok (.iaload, 1) := by decide +kernel
theorem dL_law_737 : decode cL_law 737 = .ok (.ifCond .eq 7, 3) := by decide +kernel
theorem dL_law_740 : decode cL_law 740 = .ok (.iconst 1, 1) := by decide +kernel
theorem dL_law_741 : decode cL_law 741 = .ok (.goto 4, 3) := by decide +kernel
theorem dL_law_744 : decode cL_law 744 = .ok (.iconst 0, 1) := by decide +kernel
theorem dL_law_745 : decode cL_law 745 = .ok (.aload_n 0, 1) := by decide +kernel
theorem dL_law_746 : decode cL_law 746 = .ok (.iload 4, 2) := by decide +kernel
theorem dL_law_748 : decode cL_law 748 = .ok (.iconst 2, 1) := by decide +kernel
theorem dL_law_749 : decode cL_law 749 = .ok (.iadd, 1) := by decide +kernel
theorem dL_law_750 : decode cL_law 750 = .ok (.iaload, 1) := by decide +kernel
theorem dL_law_751 : decode cL_law 751 = .ok (.aload_n 0, 1) := by decide +kernel
theorem dL_law_752 : decode cL_law 752 = .ok (.iload 4, 2) := by decide +kernel
theorem dL_law_754 : decode cL_law 754 = .ok (.iconst 3, 1) := by decide +kernel
theorem dL_law_755 : decode cL_law 755 = .ok (.iadd, 1) := by decide +kernel
theorem dL_law_756 : decode cL_law 756 = .ok (.iaload, 1) := by decide +kernel
theorem dL_law_757 : decode cL_law 757 = .ok (.aload_n 0, 1) := by decide +kernel
theorem dL_law_758 : decode cL_law 758 = .ok (.iload 4, 2) := by decide +kernel
theorem dL_law_760 : decode cL_law 760 = .ok (.iconst 4, 1) := by decide +kernel
theorem dL_law_761 : decode cL_law 761 = .ok (.iadd, 1) := by decide +kernel
theorem dL_law_762 : decode cL_law 762 = .ok (.iaload, 1) := by decide +kernel
theorem dL_law_763 : decode cL_law 763 = .ok (.invokevirtual 113, 3) := by decide +kernel
theorem dL_law_766 : decode cL_law 766 = .ok (.istore 6, 2) := by decide +kernel
theorem dL_law_768 : decode cL_law 768 = .ok (.aload_n 2, 1) := by decide +kernel
theorem dL_law_769 : decode cL_law 769 = .ok (.invokevirtual 85, 3) := by decide +kernel
theorem dL_law_772 : decode cL_law 772 = .ok (.iload 5, 2) := by decide +kernel
theorem dL_law_774 : decode cL_law 774 = .ok (.if_icmp .eq 5, 3) := by decide +kernel
theorem dL_law_777 : decode cL_law 777 = .ok (.iconst 0, 1) := by decide +kernel
theorem dL_law_778 : decode cL_law 778 = .ok (.ireturn, 1) := by decide +kernel
theorem dL_law_779 : decode cL_law 779 = .ok (.iload 5, 2) := by decide +kernel
theorem dL_law_781 : decode cL_law 781 = .ok (.ifCond .ne 15, 3) := by decide +kernel
theorem dL_law_784 : decode cL_law 784 = .ok (.aload_n 3, 1) := by decide +kernel
theorem dL_law_785 : decode cL_law 785 = .ok (.iconst 0, 1) := by decide +kernel
theorem dL_law_786 : decode cL_law 786 = .ok (.laload, 1) := by decide +kernel
theorem dL_law_787 : decode cL_law 787 = .ok (.iload 6, 2) := by decide +kernel
theorem dL_law_789 : decode cL_law 789 = .ok (.i2l, 1) := by decide +kernel
theorem dL_law_790 : decode cL_law 790 = .ok (.lcmp, 1) := by decide +kernel
theorem dL_law_791 : decode cL_law 791 = .ok (.ifCond .eq 5, 3) := by decide +kernel
theorem dL_law_794 : decode cL_law 794 = .ok (.iconst 0, 1) := by decide +kernel
theorem dL_law_795 : decode cL_law 795 = .ok (.ireturn, 1) := by decide +kernel
theorem dL_law_796 : decode cL_law 796 = .ok (.goto 590, 3) := by decide +kernel
theorem dL_law_799 : decode cL_law 799 = .ok (.aload_n 1, 1) := by decide +kernel
theorem dL_law_800 : decode cL_law 800 = .ok (.aload_n 0, 1) := by decide +kernel
theorem dL_law_801 : decode cL_law 801 = .ok (.iload 4, 2) := by decide +kernel
theorem dL_law_803 : decode cL_law 803 = .ok (.iconst 1, 1) := by decide +kernel
theorem dL_law_804 : decode cL_law 804 = .ok (.iadd, 1) := by decide +kernel
theorem dL_law_805 : decode cL_law 805 = .ok (.iaload, 1) := by decide +kernel
theorem dL_law_806 : decode cL_law 806 = .ok (.aload_n 3, 1) := by decide +kernel
theorem dL_law_807 : decode cL_law 807 = .ok (.invokestatic 114, 3) := by decide +kernel
theorem dL_law_810 : decode cL_law 810 = .ok (.istore 5, 2) := by decide +kernel
theorem dL_law_812 : decode cL_law 812 = .ok (.aload_n 2, 1) := by decide +kernel
theorem dL_law_813 : decode cL_law 813 = .ok (.aload_n 0, 1) := by decide +kernel
theorem dL_law_814 : decode cL_law 814 = .ok (.iload 4, 2) := by decide +kernel
theorem dL_law_816 : decode cL_law 816 = .ok (.iconst 1, 1) := by decide +kernel
theorem dL_law_817 : decode cL_law 817 = .ok (.iadd, 1) := by decide +kernel
theorem dL_law_818 : decode cL_law 818 = .ok (.iaload, 1) := by decide +kernel
theorem dL_law_819 : decode cL_law 819 = .ok (.invokevirtual 117, 3) := by decide +kernel
theorem dL_law_822 : decode cL_law 822 = .ok (.istore 6, 2) := by decide +kernel
theorem dL_law_824 : decode cL_law 824 = .ok (.aload_n 2, 1) := by decide +kernel
theorem dL_law_825 : decode cL_law 825 = .ok (.invokevirtual 85, 3) := by decide +kernel
theorem dL_law_828 : decode cL_law 828 = .ok (.iload 5, 2) := by decide +kernel
theorem dL_law_830 : decode cL_law 830 = .ok (.if_icmp .eq 5, 3) := by decide +kernel
theorem dL_law_833 : decode cL_law 833 = .ok (.iconst 0, 1) := by decide +kernel
theorem dL_law_834 : decode cL_law 834 = .ok (.ireturn, 1) := by decide +kernel
theorem dL_law_835 : decode cL_law 835 = .ok (.iload 5, 2) := by decide +kernel
theorem dL_law_837 : decode cL_law 837 = .ok (.ifCond .ne 15, 3) := by decide +kernel
theorem dL_law_840 : decode cL_law 840 = .ok (.aload_n 3, 1) := by decide +kernel
theorem dL_law_841 : decode cL_law 841 = .ok (.iconst 0, 1) := by decide +kernel
theorem dL_law_842 : decode cL_law 842 = .ok (.laload, 1) := by decide +kernel
theorem dL_law_843 : decode cL_law 843 = .ok (.iload 6, 2) := by decide +kernel
theorem dL_law_845 : decode cL_law 845 = .ok (.i2l, 1) := by decide +kernel
theorem dL_law_846 : decode cL_law 846 = .ok (.lcmp, 1) := by decide +kernel
theorem dL_law_847 : decode cL_law 847 = .ok (.ifCond .eq 5, 3) := by decide +kernel
theorem dL_law_850 : decode cL_law 850 = .ok (.iconst 0, 1) := by decide +kernel
theorem dL_law_851 : decode cL_law 851 = .ok (.ireturn, 1) := by decide +kernel
theorem dL_law_852 : decode cL_law 852 = .ok (.goto 534, 3) := by decide +kernel
theorem dL_law_855 : decode cL_law 855 = .ok (.aload_n 1, 1) := by decide +kernel
theorem dL_law_856 : decode cL_law 856 = .ok (.aload_n 0, 1) := by decide +kernel
theorem dL_law_857 : decode cL_law 857 = .ok (.iload 4, 2) := by decide +kernel
theorem dL_law_859 : decode cL_law 859 = .ok (.iconst 1, 1) := by decide +kernel
theorem dL_law_860 : decode cL_law 860 = .ok (.iadd, 1) := by decide +kernel
theorem dL_law_861 : decode cL_law 861 = .ok (.iaload, 1) := by decide +kernel
theorem dL_law_862 : decode cL_law 862 = .ok (.aload_n 0, 1) := by decide +kernel
theorem dL_law_863 : decode cL_law 863 = .ok (.iload 4, 2) := by decide +kernel
theorem dL_law_865 : decode cL_law 865 = .ok (.iconst 2, 1) := by decide +kernel
theorem dL_law_866 : decode cL_law 866 = .ok (.iadd, 1) := by decide +kernel
theorem dL_law_867 : decode cL_law 867 = .ok (.iaload, 1) := by decide +kernel
theorem dL_law_868 : decode cL_law 868 = .ok (.aload_n 3, 1) := by decide +kernel
theorem dL_law_869 : decode cL_law 869 = .ok (.invokestatic 118, 3) := by decide +kernel
theorem dL_law_872 : decode cL_law 872 = .ok (.istore 5, 2) := by decide +kernel
theorem dL_law_874 : decode cL_law 874 = .ok (.aload_n 2, 1) := by decide +kernel
theorem dL_law_875 : decode cL_law 875 = .ok (.aload_n 0, 1) := by decide +kernel
theorem dL_law_876 : decode cL_law 876 = .ok (.iload 4, 2) := by decide +kernel
theorem dL_law_878 : decode cL_law 878 = .ok (.iconst 1, 1) := by decide +kernel
theorem dL_law_879 : decode cL_law 879 = .ok (.iadd, 1) := by decide +kernel
theorem dL_law_880 : decode cL_law 880 = .ok (.iaload, 1) := by decide +kernel
theorem dL_law_881 : decode cL_law 881 = .ok (.aload_n 0, 1) := by decide +kernel
theorem dL_law_882 : decode cL_law 882 = .ok (.iload 4, 2) := by decide +kernel
theorem dL_law_884 : decode cL_law 884 = .ok (.iconst 2, 1) := by decide +kernel
theorem dL_law_885 : decode cL_law 885 = .ok (.iadd, 1) := by decide +kernel
theorem dL_law_886 : decode cL_law 886 = .ok (.iaload, 1) := by decide +kernel
theorem dL_law_887 : decode cL_law 887 = .ok (.invokevirtual 120, 3) := by decide +kernel
theorem dL_law_890 : decode cL_law 890 = .ok (.istore 6, 2) := by decide +kernel
theorem dL_law_892 : decode cL_law 892 = .ok (.aload_n 2, 1) := by decide +kernel
theorem dL_law_893 : decode cL_law 893 = .ok (.invokevirtual 85, 3) := by decide +kernel
theorem dL_law_896 : decode cL_law 896 = .ok (.iload 5, 2) := by decide +kernel
theorem dL_law_898 : decode cL_law 898 = .ok (.if_icmp .eq 5, 3) := by decide +kernel
theorem dL_law_901 : decode cL_law 901 = .ok (.iconst 0, 1) := by decide +kernel
theorem dL_law_902 : decode cL_law 902 = .ok (.ireturn, 1) := by decide +kernel
theorem dL_law_903 : decode cL_law 903 = .ok (.iload 5, 2) := by decide +kernel
theorem dL_law_905 : decode cL_law 905 = .ok (.ifCond .ne 15, 3) := by decide +kernel
theorem dL_law_908 : decode cL_law 908 = .ok (.aload_n 3, 1) := by decide +kernel
theorem dL_law_909 : decode cL_law 909 = .ok (.iconst 0, 1) := by decide +kernel
theorem dL_law_910 : decode cL_law 910 = .ok (.laload, 1) := by decide +kernel
theorem dL_law_911 : decode cL_law 911 = .ok (.iload 6, 2) := by decide +kernel
theorem dL_law_913 : decode cL_law 913 = .ok (.i2l, 1) := by decide +kernel
theorem dL_law_914 : decode cL_law 914 = .ok (.lcmp, 1) := by decide +kernel
theorem dL_law_915 : decode cL_law 915 = .ok (.ifCond .eq 5, 3) := by decide +kernel
theorem dL_law_918 : decode cL_law 918 = .ok (.iconst 0, 1) := by decide +kernel
theorem dL_law_919 : decode cL_law 919 = .ok (.ireturn, 1) := by decide +kernel
theorem dL_law_920 : decode cL_law 920 = .ok (.goto 466, 3) := by decide +kernel
theorem dL_law_923 : decode cL_law 923 = .ok (.aload_n 1, 1) := by decide +kernel
theorem dL_law_924 : decode cL_law 924 = .ok (.aload_n 0, 1) := by decide +kernel
theorem dL_law_925 : decode cL_law 925 = .ok (.iload 4, 2) := by decide +kernel
theorem dL_law_927 : decode cL_law 927 = .ok (.iconst 1, 1) := by decide +kernel
theorem dL_law_928 : decode cL_law 928 = .ok (.iadd, 1) := by decide +kernel
theorem dL_law_929 : decode cL_law 929 = .ok (.iaload, 1) := by decide +kernel
theorem dL_law_930 : decode cL_law 930 = .ok (.aload_n 0, 1) := by decide +kernel
theorem dL_law_931 : decode cL_law 931 = .ok (.iload 4, 2) := by decide +kernel
theorem dL_law_933 : decode cL_law 933 = .ok (.iconst 2, 1) := by decide +kernel
theorem dL_law_934 : decode cL_law 934 = .ok (.iadd, 1) := by decide +kernel
theorem dL_law_935 : decode cL_law 935 = .ok (.iaload, 1) := by decide +kernel
theorem dL_law_936 : decode cL_law 936 = .ok (.aload_n 3, 1) := by decide +kernel
theorem dL_law_937 : decode cL_law 937 = .ok (.invokestatic 121, 3) := by decide +kernel
theorem dL_law_940 : decode cL_law 940 = .ok (.istore 5, 2) := by decide +kernel
theorem dL_law_942 : decode cL_law 942 = .ok (.aload_n 2, 1) := by decide +kernel
theorem dL_law_943 : decode cL_law 943 = .ok (.aload_n 0, 1) := by decide +kernel
theorem dL_law_944 : decode cL_law 944 = .ok (.iload 4, 2) := by decide +kernel
theorem dL_law_946 : decode cL_law 946 = .ok (.iconst 1, 1) := by decide +kernel
theorem dL_law_947 : decode cL_law 947 = .ok (.iadd, 1) := by decide +kernel
theorem dL_law_948 : decode cL_law 948 = .ok (.iaload, 1) := by decide +kernel
theorem dL_law_949 : decode cL_law 949 = .ok (.aload_n 0, 1) := by decide +kernel
theorem dL_law_950 : decode cL_law 950 = .ok (.iload 4, 2) := by decide +kernel
theorem dL_law_952 : decode cL_law 952 = .ok (.iconst 2, 1) := by decide +kernel
theorem dL_law_953 : decode cL_law 953 = .ok (.iadd, 1) := by decide +kernel
theorem dL_law_954 : decode cL_law 954 = .ok (.iaload, 1) := by decide +kernel
theorem dL_law_955 : decode cL_law 955 = .ok (.invokevirtual 123, 3) := by decide +kernel
theorem dL_law_958 : decode cL_law 958 = .ok (.istore 6, 2) := by decide +kernel
theorem dL_law_960 : decode cL_law 960 = .ok (.aload_n 2, 1) := by decide +kernel
theorem dL_law_961 : decode cL_law 961 = .ok (.invokevirtual 85, 3) := by decide +kernel
theorem dL_law_964 : decode cL_law 964 = .ok (.iload 5, 2) := by decide +kernel
theorem dL_law_966 : decode cL_law 966 = .ok (.if_icmp .eq 5, 3) := by decide +kernel
theorem dL_law_969 : decode cL_law 969 = .ok (.iconst 0, 1) := by decide +kernel
theorem dL_law_970 : decode cL_law 970 = .ok (.ireturn, 1) := by decide +kernel
theorem dL_law_971 : decode cL_law 971 = .ok (.iload 5, 2) := by decide +kernel
theorem dL_law_973 : decode cL_law 973 = .ok (.ifCond .ne 15, 3) := by decide +kernel
theorem dL_law_976 : decode cL_law 976 = .ok (.aload_n 3, 1) := by decide +kernel
theorem dL_law_977 : decode cL_law 977 = .ok (.iconst 0, 1) := by decide +kernel
theorem dL_law_978 : decode cL_law 978 = .ok (.laload, 1) := by decide +kernel
theorem dL_law_979 : decode cL_law 979 = .ok (.iload 6, 2) := by decide +kernel
theorem dL_law_981 : decode cL_law 981 = .ok (.i2l, 1) := by decide +kernel
theorem dL_law_982 : decode cL_law 982 = .ok (.lcmp, 1) := by decide +kernel
theorem dL_law_983 : decode cL_law 983 = .ok (.ifCond .eq 5, 3) := by decide +kernel
theorem dL_law_986 : decode cL_law 986 = .ok (.iconst 0, 1) := by decide +kernel
theorem dL_law_987 : decode cL_law 987 = .ok (.ireturn, 1) := by decide +kernel
theorem dL_law_988 : decode cL_law 988 = .ok (.goto 398, 3) := by decide +kernel
theorem dL_law_991 : decode cL_law 991 = .ok (.aload_n 1, 1) := by decide +kernel
theorem dL_law_992 : decode cL_law 992 = .ok (.aload_n 0, 1) := by decide +kernel
theorem dL_law_993 : decode cL_law 993 = .ok (.iload 4, 2) := by decide +kernel
theorem dL_law_995 : decode cL_law 995 = .ok (.iconst 1, 1) := by decide +kernel
theorem dL_law_996 : decode cL_law 996 = .ok (.iadd, 1) := by decide +kernel
theorem dL_law_997 : decode cL_law 997 = .ok (.iaload, 1) := by decide +kernel
theorem dL_law_998 : decode cL_law 998 = .ok (.aload_n 0, 1) := by decide +kernel
theorem dL_law_999 : decode cL_law 999 = .ok (.iload 4, 2) := by decide +kernel
theorem dL_law_1001 : decode cL_law 1001 = .ok (.iconst 2, 1) := by decide +kernel
theorem dL_law_1002 : decode cL_law 1002 = .ok (.iadd, 1) := by decide +kernel
theorem dL_law_1003 : decode cL_law 1003 = .ok (.iaload, 1) := by decide +kernel
theorem dL_law_1004 : decode cL_law 1004 = .ok (.aload_n 3, 1) := by decide +kernel
theorem dL_law_1005 : decode cL_law 1005 = .ok (.invokestatic 124, 3) := by decide +kernel
theorem dL_law_1008 : decode cL_law 1008 = .ok (.istore 5, 2) := by decide +kernel
theorem dL_law_1010 : decode cL_law 1010 = .ok (.aload_n 2, 1) := by decide +kernel
theorem dL_law_1011 : decode cL_law 1011 = .ok (.aload_n 0, 1) := by decide +kernel
theorem dL_law_1012 : decode cL_law 1012 = .ok (.iload 4, 2) := by decide +kernel
theorem dL_law_1014 : decode cL_law 1014 = .ok (.iconst 1, 1) := by decide +kernel
theorem dL_law_1015 : decode cL_law 1015 = .ok (.iadd, 1) := by decide +kernel
theorem dL_law_1016 : decode cL_law 1016 = .ok (.iaload, 1) := by decide +kernel
theorem dL_law_1017 : decode cL_law 1017 = .ok (.aload_n 0, 1) := by decide +kernel
theorem dL_law_1018 : decode cL_law 1018 = .ok (.iload 4, 2) := by decide +kernel
theorem dL_law_1020 : decode cL_law 1020 = .ok (.iconst 2, 1) := by decide +kernel
theorem dL_law_1021 : decode cL_law 1021 = .ok (.iadd, 1) := by decide +kernel
theorem dL_law_1022 : decode cL_law 1022 = .ok (.iaload, 1) := by decide +kernel
theorem dL_law_1023 : decode cL_law 1023 = .ok (.invokevirtual 126, 3) := by decide +kernel
theorem dL_law_1026 : decode cL_law 1026 = .ok (.istore 6, 2) := by decide +kernel
theorem dL_law_1028 : decode cL_law 1028 = .ok (.aload_n 2, 1) := by decide +kernel
theorem dL_law_1029 : decode cL_law 1029 = .ok (.invokevirtual 85, 3) := by decide +kernel
theorem dL_law_1032 : decode cL_law 1032 = .ok (.iload 5, 2) := by decide +kernel
theorem dL_law_1034 : decode cL_law 1034 = .ok (.if_icmp .eq 5, 3) := by decide +kernel
theorem dL_law_1037 : decode cL_law 1037 = .ok (.iconst 0, 1) := by decide +kernel
theorem dL_law_1038 : decode cL_law 1038 = .ok (.ireturn, 1) := by decide +kernel
theorem dL_law_1039 : decode cL_law 1039 = .ok (.iload 5, 2) := by decide +kernel
theorem dL_law_1041 : decode cL_law 1041 = .ok (.ifCond .ne 15, 3) := by decide +kernel
theorem dL_law_1044 : decode cL_law 1044 = .ok (.aload_n 3, 1) := by decide +kernel
theorem dL_law_1045 : decode cL_law 1045 = .ok (.iconst 0, 1) := by decide +kernel
theorem dL_law_1046 : decode cL_law 1046 = .ok (.laload, 1) := by decide +kernel
theorem dL_law_1047 : decode cL_law 1047 = .ok (.iload 6, 2) := by decide +kernel
theorem dL_law_1049 : decode cL_law 1049 = .ok (.i2l, 1) := by decide +kernel
theorem dL_law_1050 : decode cL_law 1050 = .ok (.lcmp, 1) := by decide +kernel
theorem dL_law_1051 : decode cL_law 1051 = .ok (.ifCond .eq 5, 3) := by decide +kernel
theorem dL_law_1054 : decode cL_law 1054 = .ok (.iconst 0, 1) := by decide +kernel
theorem dL_law_1055 : decode cL_law 1055 = .ok (.ireturn, 1) := by decide +kernel
theorem dL_law_1056 : decode cL_law 1056 = .ok (.goto 330, 3) := by decide +kernel
theorem dL_law_1059 : decode cL_law 1059 = .ok (.aload_n 1, 1) := by decide +kernel
theorem dL_law_1060 : decode cL_law 1060 = .ok (.aload_n 0, 1) := by decide +kernel
theorem dL_law_1061 : decode cL_law 1061 = .ok (.iload 4, 2) := by decide +kernel
theorem dL_law_1063 : decode cL_law 1063 = .ok (.iconst 1, 1) := by decide +kernel
theorem dL_law_1064 : decode cL_law 1064 = .ok (.iadd, 1) := by decide +kernel
theorem dL_law_1065 : decode cL_law 1065 = .ok (.iaload, 1) := by decide +kernel
theorem dL_law_1066 : decode cL_law 1066 = .ok (.aload_n 0, 1) := by decide +kernel
theorem dL_law_1067 : decode cL_law 1067 = .ok (.iload 4, 2) := by decide +kernel
theorem dL_law_1069 : decode cL_law 1069 = .ok (.iconst 2, 1) := by decide +kernel
theorem dL_law_1070 : decode cL_law 1070 = .ok (.iadd, 1) := by decide +kernel
theorem dL_law_1071 : decode cL_law 1071 = .ok (.iaload, 1) := by decide +kernel
theorem dL_law_1072 : decode cL_law 1072 = .ok (.aload_n 0, 1) := by decide +kernel
theorem dL_law_1073 : decode cL_law 1073 = .ok (.iload 4, 2) := by decide +kernel
theorem dL_law_1075 : decode cL_law 1075 = .ok (.iconst 3, 1) := by decide +kernel
theorem dL_law_1076 : decode cL_law 1076 = .ok (.iadd, 1) := by decide +kernel
theorem dL_law_1077 : decode cL_law 1077 = .ok (.iaload, 1) := by decide +kernel
theorem dL_law_1078 : decode cL_law 1078 = .ok (.ifCond .eq 7, 3) := by decide +kernel
theorem dL_law_1081 : decode cL_law 1081 = .ok (.iconst 1, 1) := by decide +kernel
theorem dL_law_1082 : decode cL_law 1082 = .ok (.goto 4, 3) := by decide +kernel
theorem dL_law_1085 : decode cL_law 1085 = .ok (.iconst 0, 1) := by decide +kernel
theorem dL_law_1086 : decode cL_law 1086 = .ok (.aload_n 3, 1) := by decide +kernel
theorem dL_law_1087 : decode cL_law 1087 = .ok (.invokestatic 127, 3) := by decide +kernel
theorem dL_law_1090 : decode cL_law 1090 = .ok (.istore 5, 2) := by decide +kernel
theorem dL_law_1092 : decode cL_law 1092 = .ok (.aload_n 2, 1) := by decide +kernel
theorem dL_law_1093 : decode cL_law 1093 = .ok (.aload_n 0, 1) := by decide +kernel
theorem dL_law_1094 : decode cL_law 1094 = .ok (.iload 4, 2) := by decide +kernel
theorem dL_law_1096 : decode cL_law 1096 = .ok (.iconst 1, 1) := by decide +kernel
theorem dL_law_1097 : decode cL_law 1097 = .ok (.iadd, 1) := by decide +kernel
theorem dL_law_1098 : decode cL_law 1098 = .ok (.iaload, 1) := by decide +kernel
theorem dL_law_1099 : decode cL_law 1099 = .ok (.aload_n 0, 1) := by decide +kernel
theorem dL_law_1100 : decode cL_law 1100 = .ok (.iload 4, 2) := by decide +kernel
theorem dL_law_1102 : decode cL_law 1102 = .ok (.iconst 2, 1) := by decide +kernel
theorem dL_law_1103 : decode cL_law 1103 = .ok (.iadd, 1) := by decide +kernel
theorem dL_law_1104 : decode cL_law 1104 = .ok (.iaload, 1) := by decide +kernel
theorem dL_law_1105 : decode cL_law 1105 = .ok (.aload_n 0, 1) := by decide +kernel
theorem dL_law_1106 : decode cL_law 1106 = .ok (.iload 4, 2) := by decide +kernel
theorem dL_law_1108 : decode cL_law 1108 = .ok (.iconst 3, 1) := by decide +kernel
theorem dL_law_1109 : decode cL_law 1109 = .ok (.iadd, 1) := by decide +kernel
theorem dL_law_1110 : decode cL_law 1110 = .ok (.iaload, 1) := by decide +kernel
theorem dL_law_1111 : decode cL_law 1111 = .ok (.ifCond .eq 7, 3) := by decide +kernel
theorem dL_law_1114 : decode cL_law 1114 = .ok (.iconst 1, 1) := by decide +kernel
theorem dL_law_1115 : decode cL_law 1115 = .ok (.goto 4, 3) := by decide +kernel
theorem dL_law_1118 : decode cL_law 1118 = .ok (.iconst 0, 1) := by decide +kernel
theorem dL_law_1119 : decode cL_law 1119 = .ok (.invokevirtual 130, 3) := by decide +kernel
theorem dL_law_1122 : decode cL_law 1122 = .ok (.istore 6, 2) := by decide +kernel
theorem dL_law_1124 : decode cL_law 1124 = .ok (.aload_n 2, 1) := by decide +kernel
theorem dL_law_1125 : decode cL_law 1125 = .ok (.invokevirtual 85, 3) := by decide +kernel
theorem dL_law_1128 : decode cL_law 1128 = .ok (.iload 5, 2) := by decide +kernel
theorem dL_law_1130 : decode cL_law 1130 = .ok (.if_icmp .eq 5, 3) := by decide +kernel
theorem dL_law_1133 : decode cL_law 1133 = .ok (.iconst 0, 1) := by decide +kernel
theorem dL_law_1134 : decode cL_law 1134 = .ok (.ireturn, 1) := by decide +kernel
theorem dL_law_1135 : decode cL_law 1135 = .ok (.iload 5, 2) := by decide +kernel
theorem dL_law_1137 : decode cL_law 1137 = .ok (.ifCond .ne 15, 3) := by decide +kernel
theorem dL_law_1140 : decode cL_law 1140 = .ok (.aload_n 3, 1) := by decide +kernel
theorem dL_law_1141 : decode cL_law 1141 = .ok (.iconst 0, 1) := by decide +kernel
theorem dL_law_1142 : decode cL_law 1142 = .ok (.laload, 1) := by decide +kernel
theorem dL_law_1143 : decode cL_law 1143 = .ok (.iload 6, 2) := by decide +kernel
theorem dL_law_1145 : decode cL_law 1145 = .ok (.i2l, 1) := by decide +kernel
theorem dL_law_1146 : decode cL_law 1146 = .ok (.lcmp, 1) := by decide +kernel
theorem dL_law_1147 : decode cL_law 1147 = .ok (.ifCond .eq 5, 3) := by decide +kernel
theorem dL_law_1150 : decode cL_law 1150 = .ok (.iconst 0, 1) := by decide +kernel
theorem dL_law_1151 : decode cL_law 1151 = .ok (.ireturn, 1) := by decide +kernel
theorem dL_law_1152 : decode cL_law 1152 = .ok (.goto 234, 3) := by decide +kernel
theorem dL_law_1155 : decode cL_law 1155 = .ok (.aload_n 1, 1) := by decide +kernel
theorem dL_law_1156 : decode cL_law 1156 = .ok (.aload_n 0, 1) := by decide +kernel
theorem dL_law_1157 : decode cL_law 1157 = .ok (.iload 4, 2) := by decide +kernel
theorem dL_law_1159 : decode cL_law 1159 = .ok (.iconst 1, 1) := by decide +kernel
theorem dL_law_1160 : decode cL_law 1160 = .ok (.iadd, 1) := by decide +kernel
theorem dL_law_1161 : decode cL_law 1161 = .ok (.iaload, 1) := by decide +kernel
theorem dL_law_1162 : decode cL_law 1162 = .ok (.i2l, 1) := by decide +kernel
theorem dL_law_1163 : decode cL_law 1163 = .ok (.bipush 32, 2) := by decide +kernel
theorem dL_law_1165 : decode cL_law 1165 = .ok (.lshl, 1) := by decide +kernel
theorem dL_law_1166 : decode cL_law 1166 = .ok (.aload_n 0, 1) := by decide +kernel
theorem dL_law_1167 : decode cL_law 1167 = .ok (.iload 4, 2) := by decide +kernel
theorem dL_law_1169 : decode cL_law 1169 = .ok (.iconst 2, 1) := by decide +kernel
theorem dL_law_1170 : decode cL_law 1170 = .ok (.iadd, 1) := by decide +kernel
theorem dL_law_1171 : decode cL_law 1171 = .ok (.iaload, 1) := by decide +kernel
theorem dL_law_1172 : decode cL_law 1172 = .ok (.i2l, 1) := by decide +kernel
theorem dL_law_1173 : decode cL_law 1173 = .ok (.ldc2_w 131, 3) := by decide +kernel
theorem dL_law_1176 : decode cL_law 1176 = .ok (.land, 1) := by decide +kernel
theorem dL_law_1177 : decode cL_law 1177 = .ok (.lor, 1) := by decide +kernel
theorem dL_law_1178 : decode cL_law 1178 = .ok (.aload_n 0, 1) := by decide +kernel
theorem dL_law_1179 : decode cL_law 1179 = .ok (.iload 4, 2) := by decide +kernel
theorem dL_law_1181 : decode cL_law 1181 = .ok (.iconst 3, 1) := by decide +kernel
theorem dL_law_1182 : decode cL_law 1182 = .ok (.iadd, 1) := by decide +kernel
theorem dL_law_1183 : decode cL_law 1183 = .ok (.iaload, 1) := by decide +kernel
theorem dL_law_1184 : decode cL_law 1184 = .ok (.i2l, 1) := by decide +kernel
theorem dL_law_1185 : decode cL_law 1185 = .ok (.bipush 32, 2) := by decide +kernel
theorem dL_law_1187 : decode cL_law 1187 = .ok (.lshl, 1) := by decide +kernel
theorem dL_law_1188 : decode cL_law 1188 = .ok (.aload_n 0, 1) := by decide +kernel
theorem dL_law_1189 : decode cL_law 1189 = .ok (.iload 4, 2) := by decide +kernel
theorem dL_law_1191 : decode cL_law 1191 = .ok (.iconst 4, 1) := by decide +kernel
theorem dL_law_1192 : decode cL_law 1192 = .ok (.iadd, 1) := by decide +kernel
theorem dL_law_1193 : decode cL_law 1193 = .ok (.iaload, 1) := by decide +kernel
theorem dL_law_1194 : decode cL_law 1194 = .ok (.i2l, 1) := by decide +kernel
theorem dL_law_1195 : decode cL_law 1195 = .ok (.ldc2_w 131, 3) := by decide +kernel
theorem dL_law_1198 : decode cL_law 1198 = .ok (.land, 1) := by decide +kernel
theorem dL_law_1199 : decode cL_law 1199 = .ok (.lor, 1) := by decide +kernel
theorem dL_law_1200 : decode cL_law 1200 = .ok (.aload_n 0, 1) := by decide +kernel
theorem dL_law_1201 : decode cL_law 1201 = .ok (.iload 4, 2) := by decide +kernel
theorem dL_law_1203 : decode cL_law 1203 = .ok (.iconst 5, 1) := by decide +kernel
theorem dL_law_1204 : decode cL_law 1204 = .ok (.iadd, 1) := by decide +kernel
theorem dL_law_1205 : decode cL_law 1205 = .ok (.iaload, 1) := by decide +kernel
theorem dL_law_1206 : decode cL_law 1206 = .ok (.ifCond .eq 7, 3) := by decide +kernel
theorem dL_law_1209 : decode cL_law 1209 = .ok (.iconst 1, 1) := by decide +kernel
theorem dL_law_1210 : decode cL_law 1210 = .ok (.goto 4, 3) := by decide +kernel
theorem dL_law_1213 : decode cL_law 1213 = .ok (.iconst 0, 1) := by decide +kernel
theorem dL_law_1214 : decode cL_law 1214 = .ok (.aload_n 3, 1) := by decide +kernel
theorem dL_law_1215 : decode cL_law 1215 = .ok (.invokestatic 133, 3) := by decide +kernel
theorem dL_law_1218 : decode cL_law 1218 = .ok (.istore 5, 2) := by decide +kernel
theorem dL_law_1220 : decode cL_law 1220 = .ok (.aload_n 2, 1) := by decide +kernel
theorem dL_law_1221 : decode cL_law 1221 = .ok (.aload_n 0, 1) := by decide +kernel
theorem dL_law_1222 : decode cL_law 1222 = .ok (.iload 4, 2) := by decide +kernel
theorem dL_law_1224 : decode cL_law 1224 = .ok (.iconst 1, 1) := by decide +kernel
theorem dL_law_1225 : decode cL_law 1225 = .ok (.iadd, 1) := by decide +kernel
theorem dL_law_1226 : decode cL_law 1226 = .ok (.iaload, 1) := by decide +kernel
theorem dL_law_1227 : decode cL_law 1227 = .ok (.i2l, 1) := by decide +kernel
theorem dL_law_1228 : decode cL_law 1228 = .ok (.bipush 32, 2) := by decide +kernel
theorem dL_law_1230 : decode cL_law 1230 = .ok (.lshl, 1) := by decide +kernel
theorem dL_law_1231 : decode cL_law 1231 = .ok (.aload_n 0, 1) := by decide +kernel
theorem dL_law_1232 : decode cL_law 1232 = .ok (.iload 4, 2) := by decide +kernel
theorem dL_law_1234 : decode cL_law 1234 = .ok (.iconst 2, 1) := by decide +kernel
theorem dL_law_1235 : decode cL_law 1235 = .ok (.iadd, 1) := by decide +kernel
theorem dL_law_1236 : decode cL_law 1236 = .ok (.iaload, 1) := by decide +kernel
theorem dL_law_1237 : decode cL_law 1237 = .ok (.i2l, 1) := by decide +kernel
theorem dL_law_1238 : decode cL_law 1238 = .ok (.ldc2_w 131, 3) := by decide +kernel
theorem dL_law_1241 : decode cL_law 1241 = .ok (.land, 1) := by decide +kernel
theorem dL_law_1242 : decode cL_law 1242 = .ok (.lor, 1) := by decide +kernel
theorem dL_law_1243 : decode cL_law 1243 = .ok (.aload_n 0, 1) := by decide +kernel
theorem dL_law_1244 : decode cL_law 1244 = .ok (.iload 4, 2) := by decide +kernel
theorem dL_law_1246 : decode cL_law 1246 = .ok (.iconst 3, 1) := by decide +kernel
theorem dL_law_1247 : decode cL_law 1247 = .ok (.iadd, 1) := by decide +kernel
theorem dL_law_1248 : decode cL_law 1248 = .ok (.iaload, 1) := by decide +kernel
theorem dL_law_1249 : decode cL_law 1249 = .ok (.i2l, 1) := by decide +kernel
theorem dL_law_1250 : decode cL_law 1250 = .ok (.bipush 32, 2) := by decide +kernel
theorem dL_law_1252 : decode cL_law 1252 = .ok (.lshl, 1) := by decide +kernel
theorem dL_law_1253 : decode cL_law 1253 = .ok (.aload_n 0, 1) := by decide +kernel
theorem dL_law_1254 : decode cL_law 1254 = .ok (.iload 4, 2) := by decide +kernel
theorem dL_law_1256 : decode cL_law 1256 = .ok (.iconst 4, 1) := by decide +kernel
theorem dL_law_1257 : decode cL_law 1257 = .ok (.iadd, 1) := by decide +kernel
theorem dL_law_1258 : decode cL_law 1258 = .ok (.iaload, 1) := by decide +kernel
theorem dL_law_1259 : decode cL_law 1259 = .ok (.i2l, 1) := by decide +kernel
theorem dL_law_1260 : decode cL_law 1260 = .ok (.ldc2_w 131, 3) := by decide +kernel
theorem dL_law_1263 : decode cL_law 1263 = .ok (.land, 1) := by decide +kernel
theorem dL_law_1264 : decode cL_law 1264 = .ok (.lor, 1) := by decide +kernel
theorem dL_law_1265 : decode cL_law 1265 = .ok (.aload_n 0, 1) := by decide +kernel
theorem dL_law_1266 : decode cL_law 1266 = .ok (.iload 4, 2) := by decide +kernel
theorem dL_law_1268 : decode cL_law 1268 = .ok (.iconst 5, 1) := by decide +kernel
theorem dL_law_1269 : decode cL_law 1269 = .ok (.iadd, 1) := by decide +kernel
theorem dL_law_1270 : decode cL_law 1270 = .ok (.iaload, 1) := by decide +kernel
theorem dL_law_1271 : decode cL_law 1271 = .ok (.ifCond .eq 7, 3) := by decide +kernel
theorem dL_law_1274 : decode cL_law 1274 = .ok (.iconst 1, 1) := by decide +kernel
theorem dL_law_1275 : decode cL_law 1275 = .ok (.goto 4, 3) := by decide +kernel
theorem dL_law_1278 : decode cL_law 1278 = .ok (.iconst 0, 1) := by decide +kernel
theorem dL_law_1279 : decode cL_law 1279 = .ok (.invokevirtual 136, 3) := by decide +kernel
theorem dL_law_1282 : decode cL_law 1282 = .ok (.lstore 6, 2) := by decide +kernel
theorem dL_law_1284 : decode cL_law 1284 = .ok (.aload_n 2, 1) := by decide +kernel
theorem dL_law_1285 : decode cL_law 1285 = .ok (.invokevirtual 85, 3) := by decide +kernel
theorem dL_law_1288 : decode cL_law 1288 = .ok (.iload 5, 2) := by decide +kernel
theorem dL_law_1290 : decode cL_law 1290 = .ok (.if_icmp .eq 5, 3) := by decide +kernel
theorem dL_law_1293 : decode cL_law 1293 = .ok (.iconst 0, 1) := by decide +kernel
theorem dL_law_1294 : decode cL_law 1294 = .ok (.ireturn, 1) := by decide +kernel
theorem dL_law_1295 : decode cL_law 1295 = .ok (.iload 5, 2) := by decide +kernel
theorem dL_law_1297 : decode cL_law 1297 = .ok (.ifCond .ne 14, 3) := by decide +kernel
theorem dL_law_1300 : decode cL_law 1300 = .ok (.aload_n 3, 1) := by decide +kernel
theorem dL_law_1301 : decode cL_law 1301 = .ok (.iconst 0, 1) := by decide +kernel
theorem dL_law_1302 : decode cL_law 1302 = .ok (.laload, 1) := by decide +kernel
theorem dL_law_1303 : decode cL_law 1303 = .ok (.lload 6, 2) := by decide +kernel
theorem dL_law_1305 : decode cL_law 1305 = .ok (.lcmp, 1) := by decide +kernel
theorem dL_law_1306 : decode cL_law 1306 = .ok (.ifCond .eq 5, 3) := by decide +kernel
theorem dL_law_1309 : decode cL_law 1309 = .ok (.iconst 0, 1) := by decide +kernel
theorem dL_law_1310 : decode cL_law 1310 = .ok (.ireturn, 1) := by decide +kernel
theorem dL_law_1311 : decode cL_law 1311 = .ok (.goto 75, 3) := by decide +kernel
theorem dL_law_1314 : decode cL_law 1314 = .ok (.aload_n 1, 1) := by decide +kernel
theorem dL_law_1315 : decode cL_law 1315 = .ok (.aload_n 0, 1) := by decide +kernel
theorem dL_law_1316 : decode cL_law 1316 = .ok (.iload 4, 2) := by decide +kernel
theorem dL_law_1318 : decode cL_law 1318 = .ok (.iconst 1, 1) := by decide +kernel
theorem dL_law_1319 : decode cL_law 1319 = .ok (.iadd, 1) := by decide +kernel
theorem dL_law_1320 : decode cL_law 1320 = .ok (.iaload, 1) := by decide +kernel
theorem dL_law_1321 : decode cL_law 1321 = .ok (.ifCond .eq 7, 3) := by decide +kernel
theorem dL_law_1324 : decode cL_law 1324 = .ok (.iconst 1, 1) := by decide +kernel
theorem dL_law_1325 : decode cL_law 1325 = .ok (.goto 4, 3) := by decide +kernel
theorem dL_law_1328 : decode cL_law 1328 = .ok (.iconst 0, 1) := by decide +kernel
theorem dL_law_1329 : decode cL_law 1329 = .ok (.aload_n 3, 1) := by decide +kernel
theorem dL_law_1330 : decode cL_law 1330 = .ok (.invokestatic 137, 3) := by decide +kernel
theorem dL_law_1333 : decode cL_law 1333 = .ok (.istore 5, 2) := by decide +kernel
theorem dL_law_1335 : decode cL_law 1335 = .ok (.aload_n 2, 1) := by decide +kernel
theorem dL_law_1336 : decode cL_law 1336 = .ok (.aload_n 0, 1) := by decide +kernel
theorem dL_law_1337 : decode cL_law 1337 = .ok (.iload 4, 2) := by decide +kernel
theorem dL_law_1339 : decode cL_law 1339 = .ok (.iconst 1, 1) := by decide +kernel
theorem dL_law_1340 : decode cL_law 1340 = .ok (.iadd, 1) := by decide +kernel
theorem dL_law_1341 : decode cL_law 1341 = .ok (.iaload, 1) := by decide +kernel
theorem dL_law_1342 : decode cL_law 1342 = .ok (.ifCond .eq 7, 3) := by decide +kernel
theorem dL_law_1345 : decode cL_law 1345 = .ok (.iconst 1, 1) := by decide +kernel
theorem dL_law_1346 : decode cL_law 1346 = .ok (.goto 4, 3) := by decide +kernel
theorem dL_law_1349 : decode cL_law 1349 = .ok (.iconst 0, 1) := by decide +kernel
theorem dL_law_1350 : decode cL_law 1350 = .ok (.invokevirtual 140, 3) := by decide +kernel
theorem dL_law_1353 : decode cL_law 1353 = .ok (.istore 6, 2) := by decide +kernel
theorem dL_law_1355 : decode cL_law 1355 = .ok (.aload_n 2, 1) := by decide +kernel
theorem dL_law_1356 : decode cL_law 1356 = .ok (.invokevirtual 85, 3) := by decide +kernel
theorem dL_law_1359 : decode cL_law 1359 = .ok (.iload 5, 2) := by decide +kernel
theorem dL_law_1361 : decode cL_law 1361 = .ok (.if_icmp .eq 5, 3) := by decide +kernel
theorem dL_law_1364 : decode cL_law 1364 = .ok (.iconst 0, 1) := by decide +kernel
theorem dL_law_1365 : decode cL_law 1365 = .ok (.ireturn, 1) := by decide +kernel
theorem dL_law_1366 : decode cL_law 1366 = .ok (.iload 5, 2) := by decide +kernel
theorem dL_law_1368 : decode cL_law 1368 = .ok (.ifCond .ne 15, 3) := by decide +kernel
theorem dL_law_1371 : decode cL_law 1371 = .ok (.aload_n 3, 1) := by decide +kernel
theorem dL_law_1372 : decode cL_law 1372 = .ok (.iconst 0, 1) := by decide +kernel
theorem dL_law_1373 : decode cL_law 1373 = .ok (.laload, 1) := by decide +kernel
theorem dL_law_1374 : decode cL_law 1374 = .ok (.iload 6, 2) := by decide +kernel
theorem dL_law_1376 : decode cL_law 1376 = .ok (.i2l, 1) := by decide +kernel
theorem dL_law_1377 : decode cL_law 1377 = .ok (.lcmp, 1) := by decide +kernel
theorem dL_law_1378 : decode cL_law 1378 = .ok (.ifCond .eq 5, 3) := by decide +kernel
theorem dL_law_1381 : decode cL_law 1381 = .ok (.iconst 0, 1) := by decide +kernel
theorem dL_law_1382 : decode cL_law 1382 = .ok (.ireturn, 1) := by decide +kernel
theorem dL_law_1383 : decode cL_law 1383 = .ok (.goto 3, 3) := by decide +kernel
theorem dL_law_1386 : decode cL_law 1386 = .ok (.iinc 4 6, 3) := by decide +kernel
theorem dL_law_1389 : decode cL_law 1389 = .ok (.goto (-1366), 3) := by decide +kernel
theorem dL_law_1392 : decode cL_law 1392 = .ok (.iconst 1, 1) := by decide +kernel
theorem dL_law_1393 : decode cL_law 1393 = .ok (.ireturn, 1) := by decide +kernel
end
section
/-! Methods that throw: contracts of their own, beside 'Met' for those that return. A method that throws leaves all that was there as it was; the thrown object is new, of the named kind E. -/
section XTA
variable {l : Launch} {p : Program} {e : Env} {R : Room} {s : State} {m : MethodId} {args : Array Value} {below : List Frame} {meth : Method} {c : Code} {H : Heap} {locs : List Loc} {cells slots : Nat} {Q : State → Prop}
def xt_Q (E : String) (mc ms : Nat) : Array Value → State → Outcome → State → Prop := fun _ st o t =>
  ∃ (q : Addr) (ce : Cell), o = .threw q ∧ t.heap[q]? = some ce ∧ ce.vm = .none ∧ st.vm.findClass E = some ce.cls ∧ st.WarmedH t.vm ∧ st.sameButNew ({ t with vm := st.vm } : State) [] mc ms
def xt_Met (l : Launch) (y : MethodName) (ws : List Cond) (rm : Room) (Pc : Array Value → State → Prop) (E : String) (mc ms : Nat) : Prop :=
  MetFree l y (headSpec ws rm) Pc (fun _ _ _ _ _ => True) (xt_Q E mc ms)
def xt_Z (below : List Frame) (E : String) (a : Array Value) (s : State) (mc ms : Nat) : State → Prop := fun t =>
  ∃ o, t.status = .running ∧ Ended t below o ∧ xt_Q E mc ms a s o t
/-- the frame g with q thrown over it -/
def xt_W (p : Program) (l : Launch) (e : Env) (R : Room) (s : State) (m : MethodId) (args : Array Value) (below : List Frame) (meth : Method) (c : Code) (H : Heap) (locs : List Loc) (cells slots : Nat) (Q : State → Prop) (g : JFrame) (q : Addr) : Prop :=
  ∀ T : State, T.heap = H → Stand p l e R s m args below meth c T locs cells slots → ∃ t, Steps p.tables e below ((T.setTop g).pushFrame (.throwing q)) t ∧ Q t
theorem xt_old {a b : State} {mc ms : Nat} (h : a.sameButNew b [] mc ms) : a.heap.size ≤ b.heap.size ∧ ∀ z : Nat, z < a.heap.size → b.heap[z]? = a.heap[z]? := by
  obtain ⟨-, h1, -, -, -, h5⟩ := h
  refine ⟨h1, fun z hz => ?_⟩
  obtain ⟨c', a1, a2, a3, a4⟩ := h5 z _ (Array.getElem?_eq_getElem hz)
  have e1 : c'.slots = (a.heap[z]).slots := Array.ext_getElem? (fun i => a4 i (by simp))
  rw [a1, Array.getElem?_eq_getElem hz, a2, e1]
theorem xt_ofW {y : MethodName} {ws ws' : List Cond} {rm : Room} {Pc : Array Value → State → Prop} {E : String} {mc ms : Nat} {cc : ByteArray} {maxL : Nat} {ret : Option FieldType}
    (hy : plainName y.cls = true) (hw : ws = Cond.code y cc maxL ret :: ws')
    (body : ∀ p e s m args below meth c s₁, BodyLoose p l y (headSpec ws rm) cc maxL ret e s m args below meth c s₁ → c.maxLocals = maxL → c.exceptionTable.toList = [] → Pc args s →
      W p l e (headSpec ws rm).room s m args below meth c s.heap [] 0 0 (xt_Z below E args s mc ms) (entryFrame m args maxL)) : xt_Met l y ws rm Pc E mc ms := by
  refine MetFree.of_bodyS (code := cc) (maxLocals := maxL) (ret := ret) hy ?_ ?_
  · intro args s m h hn
    obtain ⟨meth, c, h1, h2, h3, h4, h5, h6, -, -⟩ := Cond.code_spec hn (atoms_spec (ws := ws) h _ (by rw [hw]; exact List.mem_cons_self))
    exact ⟨meth, c, h1, h2, h3, h4, h5, h6⟩
  · intro p e s m args below meth c s₁ B hml hP _
    have hh0 : s₁.heap = s.heap := by rw [B.state]; rfl
    have hE : c.exceptionTable.isEmpty = true := B.noHandlers (atoms_spec (ws := ws) B.pre _ (by rw [hw]; exact List.mem_cons_self))
    have hE' : c.exceptionTable.toList = [] := by rw [Array.isEmpty_iff.mp hE]
    obtain ⟨t, a1, o, b1, b2, b3⟩ := body p e s m args below meth c s₁ B hml hE' hP s₁ hh0 (Stand.of_body B)
    exact ⟨t, o, a1, b1, b2, b3⟩
theorem xt_into {T : State} {y : MethodName} {ws : List Cond} {rm : Room} {Pc : Array Value → State → Prop} {E : String} {mc ms len : Nat} {bytes : ByteArray} {maxL : Nat} {ret : Option FieldType}
    (X : Stand p l e R s m args below meth c T locs cells slots) (hM : xt_Met l y ws rm Pc E mc ms) (hbl : FrameBlind Pc) (hrc : rm.cells = mc) (hrs : rm.slots = ms)
    (hframes : rm.frames + 1 ≤ R.frames) (hlocals : 8 + (maxL + 11) + rm.locals ≤ R.locals)
    (hws : ∀ w ∈ ws, ∀ (a' : Array Value) (U : State), s.WarmedH U.vm → w.before a' U = true) (hcode : Cond.code y bytes maxL ret ∈ ws) (hinit : ∀ (a' : Array Value) (U : State), s.WarmedH U.vm → (Cond.initialized y.cls).before a' U = true)
    {g : JFrame} (hg : g.method = m) (hsize : g.locals.size = c.maxLocals) {ig : Instr} (hdg : decode c.code g.pc = .ok (ig, len)) (hW : 2 * g.monitorRoom + (g.stack.map fun v => v.category).sum ≤ 8)
    {mk : MethodId} (hn : T.methodNamed? y = some mk) {a : Array Value} (hp : Pc a T) (hf : cells + mc ≤ R.cells ∧ slots + ms ≤ R.slots) :
    ∃ (q : Addr) (ce : Cell) (T' : State), Stand p l e R s m args below meth c T' locs (cells + mc) (slots + ms) ∧ T'.heap[q]? = some ce ∧ ce.vm = .none ∧ s.vm.findClass E = some ce.cls ∧ T.heap.size ≤ T'.heap.size ∧ (∀ z : Nat, z < T.heap.size → T'.heap[z]? = T.heap[z]?) ∧
      Steps p.tables e below (doInvoke e (T.setTop g) [] mk a).1 ((T'.setTop g).pushFrame (.throwing q)) := by
  have h1 : (headSpec ws rm).pre.before a T = true := atoms_intro fun w hw => hws w hw _ _ X.warmed
  have h2 : (Cond.code y bytes maxL ret).before a T = true := hws _ hcode _ _ X.warmed
  have h3 : (Cond.initialized y.cls).before a T = true := hinit _ _ X.warmed
  obtain ⟨methY, cY, hmY, hcY, -, hlY, -, -, -, -⟩ := Cond.code_spec hn h2
  obtain ⟨kY, hkY, -⟩ := className_of_methodNamed hn
  have hinitY : kY.init = .initialized := Cond.initialized_spec (findClass_of_methodNamed hn) hkY h3
  have h : At T g.method c below := by rw [hg]; exact X.here
  have q1 : cells + (headSpec ws rm).room.cells ≤ R.cells := by show cells + rm.cells ≤ R.cells; rw [hrc]; exact hf.1
  have q2 : slots + (headSpec ws rm).room.slots ≤ R.slots := by show slots + rm.slots ≤ R.slots; rw [hrs]; exact hf.2
  have q3 : (headSpec ws rm).room.locals = rm.locals := rfl
  have happ : (headSpec ws rm).appliesLoose y e.platform (T.calling g mk a) = true :=
    Spec.appliesLoose_calling (g := g) h hdg hn hkY hinitY (X.room_calling (g := g) (R' := (headSpec ws rm).room) hsize hmY hcY hframes (by rw [hlY, q3]; omega) q1 q2) h1
  obtain ⟨mid, hmid⟩ := h.above
  have hfr : (T.setTop g).frames = (.java g :: mid) ++ below := by rw [State.frames_setTop' g h.top, hmid]; rfl
  obtain ⟨o, t, hsteps, -, hend, q, ce, rfl, hce, hcv, hcl, hWt, hsm⟩ := Steps.callFree hM p X.admits X.cas X.clock (acts := []) hfr happ (hbl _ _ _ _ hp) trivial
  rw [State.frames_setTop' g h.top, X.tail] at hend
  obtain ⟨T', X', -, hsame, ht⟩ := X.outOfThrown hg (mk := mk) (a := a) hend hWt hsm
  rw [List.append_nil] at X'
  have hth : t.heap = T'.heap := by rw [ht]; exact Stand.throwing_heap T' g q
  obtain ⟨z1, z2⟩ := xt_old hsame
  have hcl' : T.vm.findClass E = some ce.cls := hcl
  rw [X.warmed.alike.findClass] at hcl'
  refine ⟨q, ce, T', X', by rw [← hth]; exact hce, hcv, hcl', z1, z2, ?_⟩
  rw [← ht]
  exact hsteps
end XTA
section XTB
variable {l : Launch} {p : Program} {e : Env} {R : Room} {s : State} {m : MethodId} {args : Array Value} {below : List Frame} {meth : Method} {c : Code} {H : Heap} {locs : List Loc} {cells slots : Nat} {Q : State → Prop}
variable {y : MethodName} {bytes cc : ByteArray} {maxL nL mc ms n index : Nat} {ret : Option FieldType} {ws : List Cond} {rm : Room} {Pc : Array Value → State → Prop} {E : String} {Ts : List Cond} {own C : String} {b : Addr} {As rest : List Value} {g : JFrame}
/-- a static call that throws -/
theorem xt_callS (S : CallFix p m c cc nL s args Ts own) (hM : xt_Met l y ws rm Pc E mc ms) (cw : CallB R s args own index y bytes maxL ret ws rm mc ms n ∧ (Cond.static y).before args s = true) (hp : PreS s H Pc As)
    (hg : g.method = m) (hn : As.length = n) (hsize : g.locals.size = nL) (hstack : g.stack = As.reverse ++ rest) (hW : 2 * g.monitorRoom + (rest.map fun v => v.category).sum ≤ 8) (hdg : decode cc g.pc = .ok (.invokestatic index, 3)) (hf : cells + mc ≤ R.cells ∧ slots + ms ≤ R.slots)
    (kx : ∀ (q : Addr) (ce : Cell) (H1 : Heap), H1[q]? = some ce → ce.vm = .none → s.vm.findClass E = some ce.cls → H.size ≤ H1.size → (∀ z : Nat, z < H.size → H1[z]? = H[z]?) → xt_W p l e R s m args below meth c H1 locs (cells + mc) (slots + ms) Q { g with stack := rest } q) :
    W p l e R s m args below meth c H locs cells slots Q g := by
  obtain ⟨⟨hrc, hrs, hfr, hlo, hws, hcw, hcode, hini, hy, hlen, hl⟩, hstt⟩ := cw
  obtain ⟨hx, hb, hml, ho, -⟩ := S
  intro T hT X
  obtain ⟨mk, hnamed⟩ := Cond.code_named hcode
  obtain ⟨methM, cM, hmethM, -, -, -, -, -, -, hsigM⟩ := Cond.code_spec hnamed hcode
  have hstatic : methM.isStatic = true := Cond.static_spec hnamed hmethM hstt
  obtain ⟨kP, hkP, -⟩ := className_of_methodNamed hnamed
  have hinitP : kP.init = .initialized := Cond.initialized_spec (findClass_of_methodNamed hnamed) hkP hini
  have hdg' : decode c.code g.pc = .ok (.invokestatic index, 3) := by rw [hb]; exact hdg
  obtain ⟨vm₁, X₁, hstep₁⟩ := X.invokestatic hx ho hl hnamed hmethM hstatic hkP hinitP hy (g := g) hg (argsL := As) (rest := rest) (hn.trans (hlen _ hsigM)) hstack hdg'
  obtain ⟨q, ce, T', X', h1, h2, h3, h4, h5, st⟩ := xt_into (len := 3) (bytes := bytes) (maxL := maxL) (ret := ret) X₁ hM hp.1 hrc hrs hfr hlo hws hcw (fun a' U hW => word_at hW (Or.inl (by first | rfl | simp [Cond.onTables, Cond.keeps, Cond.steady])) hini)
    (g := { g with stack := rest }) hg (hsize.trans hml.symm) hdg' hW (X₁.named hnamed) (hp.2 (T.setVm vm₁) hT X₁.warmed) hf
  have hH : (T.setVm vm₁).heap = H := hT
  rw [hH] at h4 h5
  obtain ⟨t2, a1, b1⟩ := kx q ce T'.heap h1 h2 h3 h4 h5 T' rfl X'
  exact ⟨t2, hstep₁ _ fun acts => by rw [doInvoke_state]; exact st.trans a1, b1⟩
/-- a virtual call that throws -/
theorem xt_callV (S : CallFix p m c cc nL s args Ts own) (hM : xt_Met l y ws rm Pc E mc ms) (cw : CallW R s args own C index y bytes maxL ret ws rm mc ms n) (hp : PreV s H C b Pc As)
    (hg : g.method = m) (hn : As.length = n) (hsize : g.locals.size = nL) (hstack : g.stack = As.reverse ++ .ref b :: rest) (hW : 2 * g.monitorRoom + (rest.map fun v => v.category).sum ≤ 8) (hdg : decode cc g.pc = .ok (.invokevirtual index, 3)) (hf : cells + mc ≤ R.cells ∧ slots + ms ≤ R.slots)
    (kx : ∀ (q : Addr) (ce : Cell) (H1 : Heap), H1[q]? = some ce → ce.vm = .none → s.vm.findClass E = some ce.cls → H.size ≤ H1.size → (∀ z : Nat, z < H.size → H1[z]? = H[z]?) → xt_W p l e R s m args below meth c H1 locs (cells + mc) (slots + ms) Q { g with stack := rest } q) :
    W p l e R s m args below meth c H locs cells slots Q g := by
  obtain ⟨⟨hrc, hrs, hfr, hlo, hws, hcw, hcode, hini, hy, hlen, hl⟩, hinst, hsel⟩ := cw
  obtain ⟨hx, hb, hml, ho, -⟩ := S
  obtain ⟨hbl, ⟨cellB, hcB, hoB, hclB⟩, hPc⟩ := hp
  intro T hT X
  obtain ⟨mk, methM, hnamed, hmethM, hstM, habM⟩ := Cond.instanceMethod_spec hinst
  obtain ⟨methM', cM, hmethM', -, -, -, -, -, -, hsigM⟩ := Cond.code_spec hnamed hcode
  cases hmethM.symm.trans hmethM'
  obtain ⟨c2, r2, m2, q1, q2, q3, q4, kP, hkP, hkPi⟩ := Cond.selects_spec hsel
  cases hclB.symm.trans q1
  cases (State.methodFound?_of_named hnamed hy).symm.trans q2
  cases hnamed.symm.trans q3
  have hselP : selectMethod e.platform s.vm cellB.cls mk = .method mk := by rw [Launch.admits_selectMethod X.admits]; exact q4
  have hdg' : decode c.code g.pc = .ok (.invokevirtual index, 3) := by rw [hb]; exact hdg
  obtain ⟨vm₁, X₁, hstep₁⟩ := X.invokevirtual hx ho hl hnamed hmethM hstM hkP hkPi hy (a := b) (cell := cellB) (by rw [hT]; exact hcB)
    (fun z h => by rw [h] at hoB; cases hoB) hselP hmethM habM hkP hkPi (g := g) hg (argsL := As) (rest := rest) (hn.trans (hlen _ hsigM)) hstack hdg'
  obtain ⟨q, ce, T', X', h1, h2, h3, h4, h5, st⟩ := xt_into (len := 3) (bytes := bytes) (maxL := maxL) (ret := ret) X₁ hM hbl hrc hrs hfr hlo hws hcw (fun a' U hW => word_at hW (Or.inl (by first | rfl | simp [Cond.onTables, Cond.keeps, Cond.steady])) hini)
    (g := { g with stack := rest }) hg (hsize.trans hml.symm) hdg' hW (X₁.named hnamed) (hPc (T.setVm vm₁) hT X₁.warmed) hf
  have hH : (T.setVm vm₁).heap = H := hT
  rw [hH] at h4 h5
  obtain ⟨t2, a1, b1⟩ := kx q ce T'.heap h1 h2 h3 h4 h5 T' rfl X'
  exact ⟨t2, hstep₁ _ fun acts => by rw [doInvoke_state]; exact st.trans a1, b1⟩
/-- what is thrown leaves the method -/
theorem xt_out {pc : Nat} {ls : Array Slot} {st : List Value} {q : Addr} {ce : Cell} (hout : c.exceptionTable.toList = []) (hlocks : meth.locks = false) (hce : H[q]? = some ce) (hcv : ce.vm = .none) (hcl : s.vm.findClass E = some ce.cls) (hc : cells ≤ mc) (hs : slots ≤ ms) :
    xt_W p l e R s m args below meth c H [] cells slots (xt_Z below E args s mc ms) (F0 m pc ls st) q := by
  intro T hT X
  obtain ⟨h1, h2, h3, h4, h5⟩ := X.leaveThrown q (g := F0 m pc ls st) rfl rfl rfl (by rw [hout]; intro x hx; cases hx) hlocks
  exact ⟨_, h1, .threw q, h2, h3, q, ce, rfl, by show T.heap[q]? = _; rw [hT]; exact hce, hcv, hcl, h4, h5.mono hc hs⟩
/-- 'throw new E("text")' of a kind with Throwable's six fields -/
theorem xt_throwS {pc : Nat} {ls : Array Slot} (hexec : p.tables.exec = Jvm.exec) (hb : c.code = cc) (htl : l.stackTraces = false) {text : String} {names : List String} {ik is ic : Nat}
    (hown : s.vm.findClass own = some m.cls) (hcls : Bundle.fit E = true) (hnames : ∀ n ∈ names, Bundle.fit n = true)
    (hk : (Cond.classLink own ik E).before args s = true) (hini : (Cond.initialized E).before args s = true) (hstr : (Cond.stringRef own is text).before args s = true) (hat : ∀ w ∈ Bundle.ownAtoms own ic E names, w.before args s = true)
    (hsize : ls.size = c.maxLocals) (hout : c.exceptionTable.toList = []) (hlocks : meth.locks = false)
    (d0 : decode cc pc = .ok (.new ik, 3)) (d3 : decode cc (pc + 3) = .ok (.dup, 1)) (d4 : decode cc (pc + 4) = .ok (.ldc is, 2)) (d6 : decode cc (pc + 6) = .ok (.invokespecial ic, 3)) (d9 : decode cc (pc + 9) = .ok (.athrow, 1))
    (hRframes : names.length + 3 < R.frames) (hRlocals : (rest.map fun v => v.category).sum + (13 * (names.length + 1) + 43) ≤ R.locals) (hRcells : cells + 1 ≤ R.cells) (hRslots : slots + 6 ≤ R.slots) (hc : cells + 1 ≤ mc) (hs : slots + 6 ≤ ms) :
    W p l e R s m args below meth c H [] cells slots (xt_Z below E args s mc ms) (F0 m pc ls rest) := by
  intro T hT X
  have htr : e.platform.stackTraces = false := (show e.platform.stackTraces = l.stackTraces by rw [X.admits.platform]).trans htl
  subst hb
  obtain ⟨k, cf, i, sa, -, -, -, -, -, hev⟩ := Cond.stringRef_spec hown hstr
  obtain ⟨vm₁, cX, kX, hfX, hkX, -, -, X₁, st1⟩ := X.newCold hexec (own := own) (C := E) (index := ik) (n := 6) hown hk (hat _ (by simp [Bundle.ownAtoms])) hini (g := F0 m pc ls rest) rfl d0 hRcells hRslots
  generalize hT1 : (T.setVm vm₁).pushCell { cls := cX, slots := kX.instanceTypes.map defaultValue, vm := .none } = T1 at X₁ st1
  have hcellA : T1.heap[T.heap.size]? = some (freshCell cX kX) := by rw [← hT1]; exact State.heap_pushCell_size _ _
  have hcat : (Value.ref T.heap.size).category = 1 := rfl
  obtain ⟨U, hsteps, hrun, hend, hW, hsame, ce, hce, hO⟩ := X₁.ctorThrowS hexec htr (own := own) (cls := E) (names := names) (ic := ic) hown hcls hnames hat (fun x hx => nomatch hx) hfX hkX hcellA X.same.2.1 (msg := .ref sa) rfl
    (g := { method := m, pc := pc + 6, locals := ls, stack := .ref sa :: .ref T.heap.size :: .ref T.heap.size :: rest, locked := none }) rfl hsize rfl rfl (rest := rest) rfl
    d6 d9 (by rw [hout]; intro x hx; cases hx) hRframes (by simp only [List.map_cons, List.sum_cons, hcat]; show 2 * 0 + _ + _ ≤ _; omega) hlocks
  refine ⟨U, st1 _ ?_, .threw T.heap.size, hrun, hend, T.heap.size, ce, rfl, hce, hO.vm, hO.cls, hW, hsame.mono hc hs⟩
  show Steps p.tables e below (T1.setTop { method := m, pc := pc + 3, locals := ls, stack := .ref T.heap.size :: rest, locked := none }) _
  jvm_step X₁.here [X₁.here.top, hexec, d3, Value.category]
  exact X₁.ldcString hexec (own := own) (text := text) (index := is) (a := sa) hown hstr hev (g := { method := m, pc := pc + 4, locals := ls, stack := .ref T.heap.size :: .ref T.heap.size :: rest, locked := none }) rfl d4 _ hsteps
end XTB
end
section
/-! The search through a method's table where the catch rows may still be unresolved. -/
section XKA
variable {e : Env} {s : State} {f : JFrame} {a : Addr}
/-- one covering row: its link is noted; then it takes the object, or the search goes on -/
theorem xk_row {Q : Handler → Pre} {E : CtlPost} {d : Bool} {acts : List Action} {y : ExceptionTableEntry} {t : List ExceptionTableEntry} {c : ClassId} {cell : Cell} (hx : covers y f.pc = true) (h0 : y.catchType ≠ 0)
    (hl : s.vm.ClassLinks e.platform f.method.cls y.catchType c) (hcell : s.heap[a]? = some cell) (hobj : ∀ k, cell.vm ≠ .statics k) (hk : ∃ k, s.vm.classes[cell.cls]? = some k) (hc : ∃ k, s.vm.classes[c]? = some k) :
    wp (findHandler.go f a (y :: t)) Q E e d acts s ↔ if s.vm.assignable cell.cls c = true then Q (.found y.handlerPc) d acts (s.setVm (s.vm.noted f.method.cls y.catchType (.cls c)))
      else wp (findHandler.go f a t) Q E e d acts (s.setVm (s.vm.noted f.method.cls y.catchType (.cls c))) := by
  simp only [covers] at hx
  obtain ⟨ha, ht⟩ := (resolveClass_links e.toSetting hl).op (op := VmOp.resolveClass f.method.cls y.catchType) rfl
  have hal : s.vm.Alike (s.vm.noted f.method.cls y.catchType (.cls c)) := (Vm.Alike.refl s.vm).noted _ _ _
  obtain ⟨k1, hk1⟩ := hk
  obtain ⟨k2, hk2⟩ := hc
  obtain ⟨k1', hk1', -⟩ := hal.2.2 _ _ hk1
  obtain ⟨k2', hk2', -⟩ := hal.2.2 _ _ hk2
  have hq : (s.vm.noted f.method.cls y.catchType (.cls c)).assignable cell.cls c = s.vm.assignable cell.cls c := hal.assignable ..
  cases hb : s.vm.assignable cell.cls c with
  | true =>
    rw [hb] at hq
    simp [findHandler.go, hx, h0, ha, ht, hcell, hobj, hk1', hk2', hq, VmOp.dirties, VmOp.acts]
  | false =>
    rw [hb] at hq
    simp [findHandler.go, hx, h0, ha, ht, hcell, hobj, hk1', hk2', hq, VmOp.dirties, VmOp.acts]
end XKA
/-- rows ahead that do not take the thrown object -/
def xk_No (pl : Platform) (s0 : State) (d th : ClassId) (pc : Nat) (y : ExceptionTableEntry) : Prop := covers y pc = true ∧ y.catchType ≠ 0 ∧ ∃ c, s0.vm.ClassLinks pl d y.catchType c ∧ s0.vm.assignable th c = false
theorem xk_go {e : Env} {s0 : State} {f : JFrame} {a : Addr} {cell : Cell} {k0 : Class} (hobj : ∀ k, cell.vm ≠ .statics k) (hk0 : s0.vm.classes[cell.cls]? = some k0)
    (y : ExceptionTableEntry) (rest : List ExceptionTableEntry) (hx : covers y f.pc = true) (h0 : y.catchType ≠ 0) {c : ClassId} (hl : s0.vm.ClassLinks e.platform f.method.cls y.catchType c) (hfit : s0.vm.assignable cell.cls c = true) :
    ∀ (pre : List ExceptionTableEntry) (S : State), s0.WarmedH S.vm → S.heap[a]? = some cell → (∀ z ∈ pre, xk_No e.platform s0 f.method.cls cell.cls f.pc z) →
      ∃ vm', s0.WarmedH vm' ∧ ∀ (Q : Handler → Pre) (E : CtlPost) (d : Bool) (acts : List Action), wp (findHandler.go f a (pre ++ y :: rest)) Q E e d acts S ↔ Q (.found y.handlerPc) d acts (S.setVm vm') := by
  intro pre
  induction pre with
  | nil =>
    intro S hW hcell _
    obtain ⟨k0', hk0', -⟩ := hW.alike.2.2 _ _ hk0
    obtain ⟨dk, _, _, kt, hd, _, _, _, _, hkt, _, hopen⟩ := hl.here
    obtain ⟨kt', hkt', -⟩ := hW.alike.2.2 _ _ hkt
    refine ⟨_, hW.noted hd hopen (State.rightAt_cls hl), fun Q E d acts => ?_⟩
    rw [List.nil_append, xk_row hx h0 (hW.classLinks hl) hcell hobj ⟨k0', hk0'⟩ ⟨kt', hkt'⟩, if_pos (by rw [hW.alike.assignable]; exact hfit)]
  | cons z zs ih =>
    intro S hW hcell hp
    obtain ⟨hz, hz0, cz, hlz, hno⟩ := hp z List.mem_cons_self
    obtain ⟨k0', hk0', -⟩ := hW.alike.2.2 _ _ hk0
    obtain ⟨dk, _, _, kt, hd, _, _, _, _, hkt, _, hopen⟩ := hlz.here
    obtain ⟨kt', hkt', -⟩ := hW.alike.2.2 _ _ hkt
    obtain ⟨vm', hW', hq⟩ := ih (S.setVm (S.vm.noted f.method.cls z.catchType (.cls cz))) (hW.noted hd hopen (State.rightAt_cls hlz)) hcell (fun w hw => hp w (List.mem_cons_of_mem _ hw))
    refine ⟨vm', hW', fun Q E d acts => ?_⟩
    rw [List.cons_append, xk_row hz hz0 (hW.classLinks hlz) hcell hobj ⟨k0', hk0'⟩ ⟨kt', hkt'⟩, if_neg (by rw [hW.alike.assignable, hno]; exact Bool.false_ne_true)]
    exact hq Q E d acts
theorem xk_step {e : Env} {s : State} {a : Addr} {f : JFrame} {r : List Frame} {pc : Nat} {vm' : Vm} (hfind : ∀ (Q : Handler → Pre) (E : CtlPost) (d : Bool) (acts : List Action), wp (findHandler f a) Q E e d acts s ↔ Q (.found pc) d acts (s.setVm vm')) :
    (stepThrowing e s a (.java f :: r)).1 = (s.setVm vm').setFrames (.java { f with pc := pc, stack := [.ref a] } :: r) := by
  have h : (stepThrowing e s a (.java f :: r)).Is ((s.setVm vm').setFrames (.java { f with pc := pc, stack := [.ref a] } :: r)) [] := by
    simp only [stepThrowing, searchFrame, vmDo]
    generalize hr : Sem.go _ e false [] s = res
    obtain ⟨as, rfl, ha⟩ := Sem.eq_ok_of hr (a := Handler.found pc) (s' := s.setVm vm') (acts' := []) (by simp [hfind _ _ _ _])
    exact ⟨rfl, ha⟩
  exact h.1
section XKB
variable {p : Program} {l : Launch} {e : Env} {R : Room} {s : State} {m : MethodId} {args : Array Value} {below : List Frame} {meth : Method} {c : Code} {H : Heap} {locs : List Loc} {cells slots : Nat} {Q : State → Prop}
/-- caught here: by the row y, the rows ahead don't take it -/
theorem xt_catch {own nm E : String} {ce : Cell} {q : Addr} {pc : Nat} {ls : Array Slot} {st : List Value} (hown : s.vm.findClass own = some m.cls) (pre : List ExceptionTableEntry) (y : ExceptionTableEntry) (suf : List ExceptionTableEntry) (hsplit : c.exceptionTable.toList = pre ++ y :: suf)
    (hpre : ∀ z ∈ pre, covers z pc = true ∧ z.catchType ≠ 0 ∧ ∃ zn : String, (Cond.classLink own z.catchType zn).before args s = true ∧ va_Nc E zn s) (hy : covers y pc = true) (h0 : y.catchType ≠ 0)
    (hlink : (Cond.classLink own y.catchType nm).before args s = true) (hcast : (Cond.castable E nm).before args s = true) (hce : H[q]? = some ce) (hcv : ce.vm = .none) (hcl : s.vm.findClass E = some ce.cls)
    (kk : W p l e R s m args below meth c H locs cells slots Q (F0 m y.handlerPc ls [.ref q])) : xt_W p l e R s m args below meth c H locs cells slots Q (F0 m pc ls st) q := by
  intro T hT X
  have hpl : e.platform.magicAccessors = ({} : Platform).magicAccessors := by rw [X.admits.platform]
  obtain ⟨c3, c4, hc3, hc4, hasg⟩ := Cond.castable_spec hcast
  cases Option.some.inj (hc3.symm.trans hcl)
  obtain ⟨c5, hc5, hcl5⟩ := Cond.classLink_spec hown hlink e.platform hpl
  cases Option.some.inj (hc4.symm.trans hc5)
  obtain ⟨k9, h9, -⟩ := Vm.findClass_spec hcl
  have hcell : ((T.setTop (F0 m pc ls st)).pushFrame (.throwing q)).heap[q]? = some ce := by rw [Stand.throwing_heap, hT]; exact hce
  have hW0 : s.WarmedH ((T.setTop (F0 m pc ls st)).pushFrame (.throwing q)).vm := by rw [Stand.throwing_vm]; exact X.warmed
  obtain ⟨vm', hW', hq⟩ := xk_go (e := e) (s0 := s) (f := F0 m pc ls st) (a := q) (cell := ce) (fun k h => by rw [hcv] at h; cases h) h9 y suf hy h0 hcl5 hasg pre ((T.setTop (F0 m pc ls st)).pushFrame (.throwing q)) hW0 hcell
    (fun z hz => by
      obtain ⟨z1, z2, zn, z3, z4⟩ := hpre z hz
      obtain ⟨c6, hc6, hcl6⟩ := Cond.classLink_spec hown z3 e.platform hpl
      obtain ⟨a8, b8, g1, g2, g3⟩ := z4
      cases Option.some.inj (g1.symm.trans hcl)
      cases Option.some.inj (g2.symm.trans hc6)
      exact ⟨z1, z2, _, hcl6, g3⟩)
  have hm' : ((T.setTop (F0 m pc ls st)).pushFrame (.throwing q)).vm.method? (F0 m pc ls st).method = some meth := by rw [Stand.throwing_vm]; exact X.method'
  obtain ⟨t, a1, b1⟩ := kk (T.setVm vm') hT (X.noted hW')
  refine ⟨t, ?_, b1⟩
  have h : At T (F0 m pc ls st).method c below := X.here
  obtain ⟨hgo, hw⟩ := h.throwing q
  refine Steps.head hgo hw ?_
  rw [stepThread_throwing (frames_entered h.top _), xk_step (s := (T.setTop (F0 m pc ls st)).pushFrame (.throwing q)) (f := F0 m pc ls st) (vm' := vm') (pc := y.handlerPc) (fun Q E d acts => by rw [_root_.Jvm.W.findHandler_eq hm' X.code, hsplit]; exact hq Q E d acts)]
  obtain ⟨g₀, hr⟩ := X.frames_eq
  have hr' : (T.setVm vm').frames = .java g₀ :: below := hr
  rw [State.setTop_of_frames _ hr'] at a1
  have e1 : ((((T.setTop (F0 m pc ls st)).pushFrame (.throwing q)).setVm vm').setFrames (.java { F0 m pc ls st with pc := y.handlerPc, stack := [.ref q] } :: T.frames.tail)) = (T.setVm vm').setFrames (.java (F0 m y.handlerPc ls [.ref q]) :: below) := by
    rw [State.pushFrame, State.setTop_of_frames _ hr, hr]
    show (((T.setVm vm').setFrames _).setFrames _).setFrames _ = _
    rw [State.setFrames_setFrames, State.setFrames_setFrames]
    rfl
  rw [e1]
  exact a1
end XKB
end
section
/-! What every method's contract rests on: the law's start s0, whose words hold in every later state, and whose cells nobody writes. -/
def xg (w : Cond) : Bool := w.onTables && w.keepsFace
theorem xg_at {s U : State} {a a' : Array Value} {w : Cond} (hW : s.WarmedH U.vm) (hg : xg w = true) (h : w.before a s = true) : w.before a' U = true := by
  simp only [xg, Bool.and_eq_true] at hg
  have h1 := Cond.before_shiftedFace (args := a) (State.Shifted.of_warmed hW) w hg.2 h
  rw [Cond.onTables_vm (A := a) (A' := a') (U := s) (U' := U) U.vm w hg.1, State.setVm_self] at h1
  exact h1
abbrev xTy (cA : Nat → ClassId) : List (ClassId × FieldType) := [(cA 0, .int), (cA 1, .long), (cA 2, .short), (cA 3, .byte), (cA 4, .char), (cA 5, .boolean), (cA 6, .float), (cA 7, .double), (cA 8, .object "FaultBench$Box"), (cA 9, .array .int)]
def xC (l : Launch) (s0 : State) (a0 : Array Value) (dC : Nat → ClassId) (dI : Nat → Nat → Nat) (cA : Nat → ClassId) : Prop :=
  l.stackTraces = false ∧ (∀ w ∈ lw_tbl, w.before a0 s0 = true) ∧ (Jvm.Cond.and given_1 narrow_1).before a0 s0 = true ∧ va_K (dC, dI) vwCl (xTy cA) s0
/-- the state U is later than s0: its tables are warmer, s0's cells are as they were -/
def xb (s0 U : State) : Prop := s0.WarmedH U.vm ∧ s0.heap.size ≤ U.heap.size ∧ ∀ q : Nat, q < s0.heap.size → U.heap[q]? = s0.heap[q]?
theorem xb.calling {s0 U : State} (h : xb s0 U) (g : JFrame) (mk : MethodId) (a : Array Value) : xb s0 (U.calling g mk a) := h
section XBB
variable {l : Launch} {s0 : State} {a0 : Array Value} {dC : Nat → ClassId} {dI : Nat → Nat → Nat} {cA : Nat → ClassId} {s : State} {args : Array Value}
theorem xC.w (h : xC l s0 a0 dC dI cA) (hb : xb s0 s) (n : Nat) {w : Cond} (hn : lw_tbl[n]? = some w) (hg : xg w = true) : w.before args s = true := xg_at hb.1 hg (h.2.1 w (List.mem_of_getElem? hn))
theorem xC.ar (h : xC l s0 a0 dC dI cA) (hb : xb s0 s) (n : Nat) {ty : FieldType} (hn : lw_tbl[n]? = some (.arrayClass ty)) : (Cond.arrayClass ty).before args s = true := word_at hb.1 (Or.inr ⟨ty, rfl⟩) (h.2.1 _ (List.mem_of_getElem? hn))
theorem xC.K (h : xC l s0 a0 dC dI cA) (hb : xb s0 s) : va_K (dC, dI) vwCl (xTy cA) s := va_K.moved hb.1.alike h.2.2.2
theorem xC.str (h : xC l s0 a0 dC dI cA) (hb : xb s0 s) (n : Nat) {own tx : String} {k : Nat} (hn : lw_tbl[n]? = some (.stringRef own k tx)) : (Cond.stringRef own k tx).before args s = true := by
  have h1 := h.2.1 _ (List.mem_of_getElem? hn)
  have h2 : (Cond.stringRef own k tx).before #[] s0 = true := h1
  obtain ⟨c, hc⟩ : ∃ c, s0.vm.findClass own = some c := by
    cases hf : s0.vm.findClass own with
    | some c => exact ⟨c, rfl⟩
    | none => simp [Cond.before, Cond.holds, Cond.value, Term.eval, hf] at h2
  obtain ⟨kk, cf, i, a, -, -, -, -, -, hev⟩ := Cond.stringRef_spec hc h2
  exact (vk_R.warm hb.1 (⟨h2, hev⟩ : vk_R own k tx a s0)).1
theorem xC.nc (h : xC l s0 a0 dC dI cA) (hb : xb s0 s) {C T : String} (hm : Cond.not (.castable C T) ∈ flatC (Jvm.Cond.and given_1 narrow_1)) : va_Nc C T s := va_Nc.moved hb.1.alike (va_Nc.of (flat_of_before _ h.2.2.1 _ hm))
/-- Throwable's two statics, at every later state -/
theorem xs_at {C n d : String} (hl : (Cond.laysStatic C n d).before a0 s0 = true) (hi : (Cond.initialized C).before a0 s0 = true) (hr : (Cond.isRef (.static C n d)).before a0 s0 = true) (hb : xb s0 s) :
    (Cond.laysStatic C n d).before args s = true ∧ (Cond.isRef (.static C n d)).before args s = true := by
  have hk : ∀ a : Nat, a < s0.heap.size → ¬ (fun _ : Nat => False) a → s.heap[a]? = s0.heap[a]? := fun a ha _ => hb.2.2 a ha
  have hz : va_Zq C n d (fun _ => False) s s.heap := va_Zq.kept (va_Zq.moved hb.1.alike (va_Zqof hl hi hr (fun _ _ z => z))) hk
  refine ⟨?_, ?_⟩
  · obtain ⟨c, k, i, f, a, cell, h1, h2, h3, h4, h5, h6, h7, h8, h9⟩ := Cond.laysStatic_spec hl
    obtain ⟨k', hi', he⟩ := State.fieldFound?_setVm hb.1.alike h2
    exact Cond.laysStatic_of (by rw [hb.1.alike.findClass]; exact h1) hi' h3 (by rw [he]; exact h4) (by rw [hb.2.2 a (Array.getElem?_eq_some_iff.mp h5).1]; exact h5) h6 h7 h8 (by rw [he]; exact h9)
  · have key : ∀ v : Value, v.isRef = true → va_Z C n d v (fun _ => False) s s.heap → (Cond.isRef (.static C n d)).before args s = true := by
      intro v hv hZ
      obtain ⟨cf, kf, fi, f, a, cell, h1, h2, h3, h4, h5, h6, h7, -⟩ := hZ
      have he : (Term.static C n d).eval args s none [] s = some v := by simp [Term.eval, State.fieldNamed?, h1, h2, h4, h5, h6, h7]
      simp only [Cond.before, Cond.holds, Cond.value, he]
      cases v <;> simp_all [Value.isRef]
    rcases hz with h | ⟨t, h⟩
    · exact key _ rfl h
    · exact key _ rfl h
def xs4 : List Cond := [.laysStatic Bundle.tN "UNASSIGNED_STACK" Bundle.steD, .laysStatic Bundle.tN "SUPPRESSED_SENTINEL" Bundle.listD, .isRef (.static Bundle.tN "UNASSIGNED_STACK" Bundle.steD), .isRef (.static Bundle.tN "SUPPRESSED_SENTINEL" Bundle.listD)]
set_option maxRecDepth 100000 in
theorem xC.four (h : xC l s0 a0 dC dI cA) (hb : xb s0 s) : ∀ w ∈ xs4, w.before args s = true := by
  have f1 := flat_of_before _ h.2.2.1
  have u1 := xs_at (args := args) (h.2.1 (.laysStatic Bundle.tN "UNASSIGNED_STACK" Bundle.steD) (List.mem_of_getElem? (i := 172) rfl)) (h.2.1 (.initialized Bundle.tN) (List.mem_of_getElem? (i := 11) rfl)) (f1 (.isRef (.static Bundle.tN "UNASSIGNED_STACK" Bundle.steD)) (by decide +kernel)) hb
  have u2 := xs_at (args := args) (h.2.1 (.laysStatic Bundle.tN "SUPPRESSED_SENTINEL" Bundle.listD) (List.mem_of_getElem? (i := 174) rfl)) (h.2.1 (.initialized Bundle.tN) (List.mem_of_getElem? (i := 11) rfl)) (f1 (.isRef (.static Bundle.tN "SUPPRESSED_SENTINEL" Bundle.listD)) (by decide +kernel)) hb
  intro w hw
  simp only [xs4, List.mem_cons, List.not_mem_nil, or_false] at hw
  rcases hw with rfl | rfl | rfl | rfl
  · exact u1.1
  · exact u2.1
  · exact u1.2
  · exact u2.2
/-- a list of words, each of the tables or one of those four -/
theorem xC.all (h : xC l s0 a0 dC dI cA) (hb : xb s0 s) (L : List Cond) (hL : (L.all fun w => (decide (w ∈ lw_tbl) && xg w) || decide (w ∈ xs4)) = true) : ∀ w ∈ L, w.before args s = true := by
  intro w hw
  have h1 := List.all_eq_true.mp hL w hw
  rcases Bool.or_eq_true _ _ ▸ h1 with h2 | h2
  · rw [Bool.and_eq_true] at h2
    exact xg_at hb.1 h2.2 (h.2.1 w (of_decide_eq_true h2.1))
  · exact h.four hb w (of_decide_eq_true h2)
end XBB
end
section
section XWA
variable {l : Launch} {s0 : State} {a0 : Array Value} {dC : Nat → ClassId} {dI : Nat → Nat → Nat} {cA : Nat → ClassId} {s : State} {args : Array Value}
theorem k_0 (h : xC l s0 a0 dC dI cA) (hb : xb s0 s) : (Cond.initialized RL).before args s = true := h.w hb 5 rfl rfl
theorem k_1 (h : xC l s0 a0 dC dI cA) (hb : xb s0 s) : (Cond.initialized RX5).before args s = true := h.w hb 6 rfl rfl
theorem k_2 (h : xC l s0 a0 dC dI cA) (hb : xb s0 s) : (Cond.initialized RX4).before args s = true := h.w hb 7 rfl rfl
theorem k_3 (h : xC l s0 a0 dC dI cA) (hb : xb s0 s) : (Cond.initialized RX3).before args s = true := h.w hb 8 rfl rfl
theorem k_4 (h : xC l s0 a0 dC dI cA) (hb : xb s0 s) : (Cond.initialized RX1).before args s = true := h.w hb 9 rfl rfl
theorem k_5 (h : xC l s0 a0 dC dI cA) (hb : xb s0 s) : (Cond.initialized RX6).before args s = true := h.w hb 10 rfl rfl
theorem k_6 (h : xC l s0 a0 dC dI cA) (hb : xb s0 s) : (Cond.initialized "java/lang/Throwable").before args s = true := h.w hb 11 rfl rfl
theorem k_7 (h : xC l s0 a0 dC dI cA) (hb : xb s0 s) : (Cond.initialized "java/lang/Exception").before args s = true := h.w hb 12 rfl rfl
theorem k_8 (h : xC l s0 a0 dC dI cA) (hb : xb s0 s) : (Cond.initialized "java/lang/RuntimeException").before args s = true := h.w hb 13 rfl rfl
theorem k_9 (h : xC l s0 a0 dC dI cA) (hb : xb s0 s) : (Cond.initialized "java/lang/NullPointerException").before args s = true := h.w hb 14 rfl rfl
theorem k_10 (h : xC l s0 a0 dC dI cA) (hb : xb s0 s) : (Cond.initialized "java/lang/IndexOutOfBoundsException").before args s = true := h.w hb 15 rfl rfl
theorem k_11 (h : xC l s0 a0 dC dI cA) (hb : xb s0 s) : (Cond.initialized "java/lang/ArrayIndexOutOfBoundsException").before args s = true := h.w hb 16 rfl rfl
theorem k_12 (h : xC l s0 a0 dC dI cA) (hb : xb s0 s) : (Cond.initialized "java/lang/NegativeArraySizeException").before args s = true := h.w hb 17 rfl rfl
theorem k_13 (h : xC l s0 a0 dC dI cA) (hb : xb s0 s) : (Cond.initialized RX0).before args s = true := h.w hb 18 rfl rfl
theorem k_14 (h : xC l s0 a0 dC dI cA) (hb : xb s0 s) : (Cond.initialized RX2).before args s = true := h.w hb 19 rfl rfl
theorem k_15 (h : xC l s0 a0 dC dI cA) (hb : xb s0 s) : (Cond.initialized "java/lang/ArrayStoreException").before args s = true := h.w hb 20 rfl rfl
theorem k_16 (h : xC l s0 a0 dC dI cA) (hb : xb s0 s) : (Cond.initialized "java/lang/ClassCastException").before args s = true := h.w hb 21 rfl rfl
theorem k_17 (h : xC l s0 a0 dC dI cA) (hb : xb s0 s) : (Cond.initialized "java/lang/ArithmeticException").before args s = true := h.w hb 22 rfl rfl
theorem k_18 (h : xC l s0 a0 dC dI cA) (hb : xb s0 s) : (Cond.classLink RL 8 RX5).before args s = true := h.w hb 23 rfl rfl
theorem k_19 (h : xC l s0 a0 dC dI cA) (hb : xb s0 s) : (Cond.instantiable RX5 5).before args s = true := h.w hb 24 rfl rfl
theorem k_20 (h : xC l s0 a0 dC dI cA) (hb : xb s0 s) : (Cond.methodLink RL 75 yX5_init).before args s = true := h.w hb 25 rfl rfl
theorem k_21 (h : xC l s0 a0 dC dI cA) (hb : xb s0 s) : (Cond.instanceMethod yX5_init).before args s = true := h.w hb 26 rfl rfl
theorem k_22 (h : xC l s0 a0 dC dI cA) (hb : xb s0 s) : (Cond.code yX5_init cX5_init 1 none).before args s = true := h.w hb 27 rfl rfl
theorem k_23 (h : xC l s0 a0 dC dI cA) (hb : xb s0 s) : (Cond.methodLink RX5 1 ⟨"java/lang/Object", "<init>", "()V"⟩).before args s = true := h.w hb 28 rfl rfl
theorem k_24 (h : xC l s0 a0 dC dI cA) (hb : xb s0 s) : (Cond.instanceMethod ⟨"java/lang/Object", "<init>", "()V"⟩).before args s = true := h.w hb 29 rfl rfl
theorem k_25 (h : xC l s0 a0 dC dI cA) (hb : xb s0 s) : (Cond.code ⟨"java/lang/Object", "<init>", "()V"⟩ object_method_1_code 1 none).before args s = true := h.w hb 30 rfl rfl
theorem k_26 (h : xC l s0 a0 dC dI cA) (hb : xb s0 s) : (Cond.classLink RX5 7 RX4).before args s = true := h.w hb 31 rfl rfl
theorem k_27 (h : xC l s0 a0 dC dI cA) (hb : xb s0 s) : (Cond.instantiable RX4 9).before args s = true := h.w hb 32 rfl rfl
theorem k_28 (h : xC l s0 a0 dC dI cA) (hb : xb s0 s) : (Cond.methodLink RX5 9 yX4_init).before args s = true := h.w hb 33 rfl rfl
theorem k_29 (h : xC l s0 a0 dC dI cA) (hb : xb s0 s) : (Cond.instanceMethod yX4_init).before args s = true := h.w hb 34 rfl rfl
theorem k_30 (h : xC l s0 a0 dC dI cA) (hb : xb s0 s) : (Cond.code yX4_init cX4_init 2 none).before args s = true := h.w hb 35 rfl rfl
theorem k_31 (h : xC l s0 a0 dC dI cA) (hb : xb s0 s) : (Cond.methodLink RX4 3 ⟨"java/lang/Object", "<init>", "()V"⟩).before args s = true := h.w hb 36 rfl rfl
theorem k_32 (h : xC l s0 a0 dC dI cA) (hb : xb s0 s) : (Cond.fieldLink RX4 9 "FaultBench$Rows" "lengths" "[I").before args s = true := h.w hb 37 rfl rfl
theorem k_33 (h : xC l s0 a0 dC dI cA) (hb : xb s0 s) : (Cond.fieldLink RX4 15 "FaultBench$Rows" "ints" "[I").before args s = true := h.w hb 38 rfl rfl
theorem k_34 (h : xC l s0 a0 dC dI cA) (hb : xb s0 s) : (Cond.fieldLink RX4 18 "FaultBench$Rows" "longs" "[J").before args s = true := h.w hb 39 rfl rfl
theorem k_35 (h : xC l s0 a0 dC dI cA) (hb : xb s0 s) : (Cond.fieldLink RX4 22 "FaultBench$Rows" "shorts" "[S").before args s = true := h.w hb 40 rfl rfl
theorem k_36 (h : xC l s0 a0 dC dI cA) (hb : xb s0 s) : (Cond.fieldLink RX4 26 "FaultBench$Rows" "bytes" "[B").before args s = true := h.w hb 41 rfl rfl
theorem k_37 (h : xC l s0 a0 dC dI cA) (hb : xb s0 s) : (Cond.fieldLink RX4 30 "FaultBench$Rows" "chars" "[C").before args s = true := h.w hb 42 rfl rfl
theorem k_38 (h : xC l s0 a0 dC dI cA) (hb : xb s0 s) : (Cond.fieldLink RX4 34 "FaultBench$Rows" "booleans" "[Z").before args s = true := h.w hb 43 rfl rfl
theorem k_39 (h : xC l s0 a0 dC dI cA) (hb : xb s0 s) : (Cond.fieldLink RX4 38 "FaultBench$Rows" "floats" "[F").before args s = true := h.w hb 44 rfl rfl
theorem k_40 (h : xC l s0 a0 dC dI cA) (hb : xb s0 s) : (Cond.fieldLink RX4 42 "FaultBench$Rows" "doubles" "[D").before args s = true := h.w hb 45 rfl rfl
theorem k_60 (h : xC l s0 a0 dC dI cA) (hb : xb s0 s) : (Cond.arrayClass .int).before args s = true := h.ar hb 65 rfl
theorem k_61 (h : xC l s0 a0 dC dI cA) (hb : xb s0 s) : (Cond.arrayClass .long).before args s = true := h.ar hb 66 rfl
theorem k_62 (h : xC l s0 a0 dC dI cA) (hb : xb s0 s) : (Cond.arrayClass .short).before args s = true := h.ar hb 67 rfl
theorem k_63 (h : xC l s0 a0 dC dI cA) (hb : xb s0 s) : (Cond.arrayClass .byte).before args s = true := h.ar hb 68 rfl
theorem k_64 (h : xC l s0 a0 dC dI cA) (hb : xb s0 s) : (Cond.arrayClass .char).before args s = true := h.ar hb 69 rfl
theorem k_65 (h : xC l s0 a0 dC dI cA) (hb : xb s0 s) : (Cond.arrayClass .boolean).before args s = true := h.ar hb 70 rfl
theorem k_66 (h : xC l s0 a0 dC dI cA) (hb : xb s0 s) : (Cond.arrayClass .float).before args s = true := h.ar hb 71 rfl
theorem k_67 (h : xC l s0 a0 dC dI cA) (hb : xb s0 s) : (Cond.arrayClass .double).before args s = true := h.ar hb 72 rfl
theorem k_68 (h : xC l s0 a0 dC dI cA) (hb : xb s0 s) : (Cond.classLink RX5 16 RX3).before args s = true := h.w hb 73 rfl rfl
theorem k_69 (h : xC l s0 a0 dC dI cA) (hb : xb s0 s) : (Cond.instantiable RX3 4).before args s = true := h.w hb 74 rfl rfl
theorem k_70 (h : xC l s0 a0 dC dI cA) (hb : xb s0 s) : (Cond.methodLink RX5 18 yX3_init).before args s = true := h.w hb 75 rfl rfl
theorem k_71 (h : xC l s0 a0 dC dI cA) (hb : xb s0 s) : (Cond.instanceMethod yX3_init).before args s = true := h.w hb 76 rfl rfl
theorem k_72 (h : xC l s0 a0 dC dI cA) (hb : xb s0 s) : (Cond.code yX3_init cX3_init 3 none).before args s = true := h.w hb 77 rfl rfl
theorem k_73 (h : xC l s0 a0 dC dI cA) (hb : xb s0 s) : (Cond.methodLink RX3 3 ⟨"java/lang/Object", "<init>", "()V"⟩).before args s = true := h.w hb 78 rfl rfl
theorem k_74 (h : xC l s0 a0 dC dI cA) (hb : xb s0 s) : (Cond.classLink RX3 11 "[[I").before args s = true := h.w hb 79 rfl rfl
theorem k_76 (h : xC l s0 a0 dC dI cA) (hb : xb s0 s) : (Cond.fieldLink RX3 13 "FaultBench$Grid" "cells" "[[I").before args s = true := h.w hb 81 rfl rfl
theorem k_77 (h : xC l s0 a0 dC dI cA) (hb : xb s0 s) : (Cond.fieldLink RX3 16 "FaultBench$Grid" "made" "Z").before args s = true := h.w hb 82 rfl rfl
theorem k_78 (h : xC l s0 a0 dC dI cA) (hb : xb s0 s) : (Cond.fieldLink RX3 20 "FaultBench$Grid" "height" "I").before args s = true := h.w hb 83 rfl rfl
theorem k_79 (h : xC l s0 a0 dC dI cA) (hb : xb s0 s) : (Cond.fieldLink RX3 24 "FaultBench$Grid" "width" "I").before args s = true := h.w hb 84 rfl rfl
theorem k_89 (h : xC l s0 a0 dC dI cA) (hb : xb s0 s) : (Cond.classLink RX5 23 RX1).before args s = true := h.w hb 94 rfl rfl
theorem k_90 (h : xC l s0 a0 dC dI cA) (hb : xb s0 s) : (Cond.instantiable RX1 4).before args s = true := h.w hb 95 rfl rfl
theorem k_92 (h : xC l s0 a0 dC dI cA) (hb : xb s0 s) : (Cond.instanceMethod yX1_init).before args s = true := h.w hb 97 rfl rfl
theorem k_93 (h : xC l s0 a0 dC dI cA) (hb : xb s0 s) : (Cond.code yX1_init cX1_init 1 none).before args s = true := h.w hb 98 rfl rfl
theorem k_94 (h : xC l s0 a0 dC dI cA) (hb : xb s0 s) : (Cond.methodLink RX1 3 ⟨"java/lang/Object", "<init>", "()V"⟩).before args s = true := h.w hb 99 rfl rfl
theorem k_95 (h : xC l s0 a0 dC dI cA) (hb : xb s0 s) : (Cond.classLink RX1 9 RX0).before args s = true := h.w hb 100 rfl rfl
theorem k_97 (h : xC l s0 a0 dC dI cA) (hb : xb s0 s) : (Cond.fieldLink RX1 11 "FaultBench$BoxRow" "places" "[LFaultBench$Box;").before args s = true := h.w hb 102 rfl rfl
theorem k_98 (h : xC l s0 a0 dC dI cA) (hb : xb s0 s) : (Cond.fieldLink RX1 17 "FaultBench$BoxRow" "made" "Z").before args s = true := h.w hb 103 rfl rfl
theorem k_99 (h : xC l s0 a0 dC dI cA) (hb : xb s0 s) : (Cond.fieldLink RX1 21 "FaultBench$BoxRow" "discsAlone" "Z").before args s = true := h.w hb 104 rfl rfl
theorem k_100 (h : xC l s0 a0 dC dI cA) (hb : xb s0 s) : (Cond.fieldLink RX1 24 "FaultBench$BoxRow" "count" "I").before args s = true := h.w hb 105 rfl rfl
theorem k_110 (h : xC l s0 a0 dC dI cA) (hb : xb s0 s) : (Cond.fieldLink RX5 10 "FaultBench" "rows" "LFaultBench$Rows;").before args s = true := h.w hb 115 rfl rfl
theorem k_111 (h : xC l s0 a0 dC dI cA) (hb : xb s0 s) : (Cond.fieldLink RX5 19 "FaultBench" "grid" "LFaultBench$Grid;").before args s = true := h.w hb 116 rfl rfl
theorem k_112 (h : xC l s0 a0 dC dI cA) (hb : xb s0 s) : (Cond.fieldLink RX5 26 "FaultBench" "boxRow" "LFaultBench$BoxRow;").before args s = true := h.w hb 117 rfl rfl
theorem k_113 (h : xC l s0 a0 dC dI cA) (hb : xb s0 s) : (Cond.fieldLink RX5 30 "FaultBench" "written" "I").before args s = true := h.w hb 118 rfl rfl
theorem k_114 (h : xC l s0 a0 dC dI cA) (hb : xb s0 s) : (Cond.fieldLink RX5 34 "FaultBench" "came" "I").before args s = true := h.w hb 119 rfl rfl
theorem k_126 (h : xC l s0 a0 dC dI cA) (hb : xb s0 s) : (Cond.methodLink RL 79 yL_read).before args s = true := h.w hb 131 rfl rfl
theorem k_127 (h : xC l s0 a0 dC dI cA) (hb : xb s0 s) : (Cond.static yL_read).before args s = true := h.w hb 132 rfl rfl
theorem k_128 (h : xC l s0 a0 dC dI cA) (hb : xb s0 s) : (Cond.codeWith yL_read cL_read 6 (some .int) [(0, 11, 14, 13), (0, 11, 18, 15)]).before args s = true := h.w hb 133 rfl rfl
theorem k_129 (h : xC l s0 a0 dC dI cA) (hb : xb s0 s) : (Cond.classLink RL 13 "java/lang/NullPointerException").before args s = true := h.w hb 134 rfl rfl
theorem k_130 (h : xC l s0 a0 dC dI cA) (hb : xb s0 s) : (Cond.classLink RL 15 "java/lang/ArrayIndexOutOfBoundsException").before args s = true := h.w hb 135 rfl rfl
theorem k_131 (h : xC l s0 a0 dC dI cA) (hb : xb s0 s) : (Cond.methodLink RL 7 yX5_read).before args s = true := h.w hb 136 rfl rfl
theorem k_132 (h : xC l s0 a0 dC dI cA) (hb : xb s0 s) : (Cond.instanceMethod yX5_read).before args s = true := h.w hb 137 rfl rfl
theorem k_133 (h : xC l s0 a0 dC dI cA) (hb : xb s0 s) : (Cond.selects RX5 yX5_read yX5_read).before args s = true := h.w hb 138 rfl rfl
theorem k_134 (h : xC l s0 a0 dC dI cA) (hb : xb s0 s) : (Cond.code yX5_read cX5_read 5 (some .long)).before args s = true := h.w hb 139 rfl rfl
theorem k_135 (h : xC l s0 a0 dC dI cA) (hb : xb s0 s) : (Cond.methodLink RX5 37 yX5_kindOf).before args s = true := h.w hb 140 rfl rfl
theorem k_136 (h : xC l s0 a0 dC dI cA) (hb : xb s0 s) : (Cond.static yX5_kindOf).before args s = true := h.w hb 141 rfl rfl
theorem k_137 (h : xC l s0 a0 dC dI cA) (hb : xb s0 s) : (Cond.code yX5_kindOf cX5_kindOf 1 (some .int)).before args s = true := h.w hb 142 rfl rfl
theorem k_138 (h : xC l s0 a0 dC dI cA) (hb : xb s0 s) : (Cond.methodLink RX5 41 yX5_needThere).before args s = true := h.w hb 143 rfl rfl
theorem k_139 (h : xC l s0 a0 dC dI cA) (hb : xb s0 s) : (Cond.static yX5_needThere).before args s = true := h.w hb 144 rfl rfl
theorem k_140 (h : xC l s0 a0 dC dI cA) (hb : xb s0 s) : (Cond.code yX5_needThere cX5_needThere 1 none).before args s = true := h.w hb 145 rfl rfl
theorem k_141 (h : xC l s0 a0 dC dI cA) (hb : xb s0 s) : (Cond.classLink RX5 136 "java/lang/NullPointerException").before args s = true := h.w hb 146 rfl rfl
theorem k_142 (h : xC l s0 a0 dC dI cA) (hb : xb s0 s) : (Cond.instantiable "java/lang/NullPointerException" 8).before args s = true := h.w hb 147 rfl rfl
theorem k_143 (h : xC l s0 a0 dC dI cA) (hb : xb s0 s) : (Cond.castable "java/lang/NullPointerException" "java/lang/NullPointerException").before args s = true := h.w hb 148 rfl rfl
theorem k_150 (h : xC l s0 a0 dC dI cA) (hb : xb s0 s) : (Cond.selects "java/lang/NullPointerException" ⟨"java/lang/Throwable", "fillInStackTrace", "(I)Ljava/lang/Throwable;"⟩ ⟨"java/lang/Throwable", "fillInStackTrace", "(I)Ljava/lang/Throwable;"⟩).before args s = true := h.w hb 155 rfl rfl
theorem k_161 (h : xC l s0 a0 dC dI cA) (hb : xb s0 s) : (Cond.fieldLink "java/lang/Throwable" 198 "java/lang/Throwable" "backtrace" "Ljava/lang/Object;").before args s = true := h.w hb 166 rfl rfl
theorem k_163 (h : xC l s0 a0 dC dI cA) (hb : xb s0 s) : (Cond.instanceMethod ⟨"java/lang/Throwable", "<init>", "()V"⟩).before args s = true := h.w hb 168 rfl rfl
theorem k_164 (h : xC l s0 a0 dC dI cA) (hb : xb s0 s) : (Cond.code ⟨"java/lang/Throwable", "<init>", "()V"⟩ prog_19_method_1_code 1 none).before args s = true := h.w hb 169 rfl rfl
theorem k_165 (h : xC l s0 a0 dC dI cA) (hb : xb s0 s) : (Cond.methodLink "java/lang/Throwable" 1 ⟨"java/lang/Object", "<init>", "()V"⟩).before args s = true := h.w hb 170 rfl rfl
theorem k_166 (h : xC l s0 a0 dC dI cA) (hb : xb s0 s) : (Cond.fieldLink "java/lang/Throwable" 13 "java/lang/Throwable" "UNASSIGNED_STACK" "[Ljava/lang/StackTraceElement;").before args s = true := h.w hb 171 rfl rfl
theorem k_168 (h : xC l s0 a0 dC dI cA) (hb : xb s0 s) : (Cond.fieldLink "java/lang/Throwable" 20 "java/lang/Throwable" "SUPPRESSED_SENTINEL" "Ljava/util/List;").before args s = true := h.w hb 173 rfl rfl
theorem k_170 (h : xC l s0 a0 dC dI cA) (hb : xb s0 s) : (Cond.methodLink "java/lang/Throwable" 27 ⟨"java/lang/Throwable", "fillInStackTrace", "()Ljava/lang/Throwable;"⟩).before args s = true := h.w hb 175 rfl rfl
theorem k_171 (h : xC l s0 a0 dC dI cA) (hb : xb s0 s) : (Cond.instanceMethod ⟨"java/lang/Throwable", "fillInStackTrace", "()Ljava/lang/Throwable;"⟩).before args s = true := h.w hb 176 rfl rfl
theorem k_172 (h : xC l s0 a0 dC dI cA) (hb : xb s0 s) : (Cond.sameMethod "java/lang/Throwable" "java/lang/Throwable" "fillInStackTrace" "()Ljava/lang/Throwable;").before args s = true := h.w hb 177 rfl rfl
theorem k_173 (h : xC l s0 a0 dC dI cA) (hb : xb s0 s) : (Cond.selects "java/lang/ArithmeticException" ⟨"java/lang/Throwable", "fillInStackTrace", "()Ljava/lang/Throwable;"⟩ ⟨"java/lang/Throwable", "fillInStackTrace", "()Ljava/lang/Throwable;"⟩).before args s = true := h.w hb 178 rfl rfl
theorem k_174 (h : xC l s0 a0 dC dI cA) (hb : xb s0 s) : (Cond.selects "java/lang/ArrayIndexOutOfBoundsException" ⟨"java/lang/Throwable", "fillInStackTrace", "()Ljava/lang/Throwable;"⟩ ⟨"java/lang/Throwable", "fillInStackTrace", "()Ljava/lang/Throwable;"⟩).before args s = true := h.w hb 179 rfl rfl
theorem k_175 (h : xC l s0 a0 dC dI cA) (hb : xb s0 s) : (Cond.selects "java/lang/ArrayStoreException" ⟨"java/lang/Throwable", "fillInStackTrace", "()Ljava/lang/Throwable;"⟩ ⟨"java/lang/Throwable", "fillInStackTrace", "()Ljava/lang/Throwable;"⟩).before args s = true := h.w hb 180 rfl rfl
theorem k_176 (h : xC l s0 a0 dC dI cA) (hb : xb s0 s) : (Cond.selects "java/lang/ClassCastException" ⟨"java/lang/Throwable", "fillInStackTrace", "()Ljava/lang/Throwable;"⟩ ⟨"java/lang/Throwable", "fillInStackTrace", "()Ljava/lang/Throwable;"⟩).before args s = true := h.w hb 181 rfl rfl
theorem k_177 (h : xC l s0 a0 dC dI cA) (hb : xb s0 s) : (Cond.selects "java/lang/NegativeArraySizeException" ⟨"java/lang/Throwable", "fillInStackTrace", "()Ljava/lang/Throwable;"⟩ ⟨"java/lang/Throwable", "fillInStackTrace", "()Ljava/lang/Throwable;"⟩).before args s = true := h.w hb 182 rfl rfl
theorem k_178 (h : xC l s0 a0 dC dI cA) (hb : xb s0 s) : (Cond.selects "java/lang/NullPointerException" ⟨"java/lang/Throwable", "fillInStackTrace", "()Ljava/lang/Throwable;"⟩ ⟨"java/lang/NullPointerException", "fillInStackTrace", "()Ljava/lang/Throwable;"⟩).before args s = true := h.w hb 183 rfl rfl
theorem k_179 (h : xC l s0 a0 dC dI cA) (hb : xb s0 s) : (Cond.instanceMethod ⟨"java/lang/NullPointerException", "fillInStackTrace", "()Ljava/lang/Throwable;"⟩).before args s = true := h.w hb 184 rfl rfl
theorem k_181 (h : xC l s0 a0 dC dI cA) (hb : xb s0 s) : (Cond.methodLink "java/lang/NullPointerException" 16 ⟨"java/lang/NullPointerException", "getExtendedNPEMessage", "()Ljava/lang/String;"⟩).before args s = true := h.w hb 186 rfl rfl
theorem k_183 (h : xC l s0 a0 dC dI cA) (hb : xb s0 s) : (Cond.instanceMethod ⟨"java/lang/NullPointerException", "getExtendedNPEMessage", "()Ljava/lang/String;"⟩).before args s = true := h.w hb 188 rfl rfl
theorem k_185 (h : xC l s0 a0 dC dI cA) (hb : xb s0 s) : (Cond.methodLink "java/lang/NullPointerException" 24 ⟨"java/lang/RuntimeException", "fillInStackTrace", "()Ljava/lang/Throwable;"⟩).before args s = true := h.w hb 190 rfl rfl
theorem k_186 (h : xC l s0 a0 dC dI cA) (hb : xb s0 s) : (Cond.sameMethod "java/lang/RuntimeException" "java/lang/Throwable" "fillInStackTrace" "()Ljava/lang/Throwable;").before args s = true := h.w hb 191 rfl rfl
theorem k_189 (h : xC l s0 a0 dC dI cA) (hb : xb s0 s) : (Cond.methodLink "java/lang/Throwable" 202 ⟨"java/lang/Throwable", "fillInStackTrace", "(I)Ljava/lang/Throwable;"⟩).before args s = true := h.w hb 194 rfl rfl
theorem k_191 (h : xC l s0 a0 dC dI cA) (hb : xb s0 s) : (Cond.instanceMethod ⟨"java/lang/Throwable", "fillInStackTrace", "(I)Ljava/lang/Throwable;"⟩).before args s = true := h.w hb 196 rfl rfl
theorem k_192 (h : xC l s0 a0 dC dI cA) (hb : xb s0 s) : (Cond.instantiable "java/lang/Throwable" 6).before args s = true := h.w hb 197 rfl rfl
theorem k_194 (h : xC l s0 a0 dC dI cA) (hb : xb s0 s) : (Cond.stringRef RX5 138 "nothing is there").before args s = true := h.str hb 199 rfl
theorem k_195 (h : xC l s0 a0 dC dI cA) (hb : xb s0 s) : (Cond.methodLink RX5 140 ⟨"java/lang/NullPointerException", "<init>", "(Ljava/lang/String;)V"⟩).before args s = true := h.w hb 200 rfl rfl
theorem k_196 (h : xC l s0 a0 dC dI cA) (hb : xb s0 s) : (Cond.instanceMethod ⟨"java/lang/NullPointerException", "<init>", "(Ljava/lang/String;)V"⟩).before args s = true := h.w hb 201 rfl rfl
theorem k_197 (h : xC l s0 a0 dC dI cA) (hb : xb s0 s) : (Cond.code ⟨"java/lang/NullPointerException", "<init>", "(Ljava/lang/String;)V"⟩ prog_16_method_2_code 2 none).before args s = true := h.w hb 202 rfl rfl
theorem k_198 (h : xC l s0 a0 dC dI cA) (hb : xb s0 s) : (Cond.methodLink "java/lang/NullPointerException" 7 ⟨"java/lang/RuntimeException", "<init>", "(Ljava/lang/String;)V"⟩).before args s = true := h.w hb 203 rfl rfl
theorem k_199 (h : xC l s0 a0 dC dI cA) (hb : xb s0 s) : (Cond.instanceMethod ⟨"java/lang/RuntimeException", "<init>", "(Ljava/lang/String;)V"⟩).before args s = true := h.w hb 204 rfl rfl
theorem k_200 (h : xC l s0 a0 dC dI cA) (hb : xb s0 s) : (Cond.code ⟨"java/lang/RuntimeException", "<init>", "(Ljava/lang/String;)V"⟩ prog_17_method_2_code 2 none).before args s = true := h.w hb 205 rfl rfl
theorem k_201 (h : xC l s0 a0 dC dI cA) (hb : xb s0 s) : (Cond.methodLink "java/lang/RuntimeException" 7 ⟨"java/lang/Exception", "<init>", "(Ljava/lang/String;)V"⟩).before args s = true := h.w hb 206 rfl rfl
theorem k_202 (h : xC l s0 a0 dC dI cA) (hb : xb s0 s) : (Cond.instanceMethod ⟨"java/lang/Exception", "<init>", "(Ljava/lang/String;)V"⟩).before args s = true := h.w hb 207 rfl rfl
theorem k_203 (h : xC l s0 a0 dC dI cA) (hb : xb s0 s) : (Cond.code ⟨"java/lang/Exception", "<init>", "(Ljava/lang/String;)V"⟩ prog_13_method_2_code 2 none).before args s = true := h.w hb 208 rfl rfl
theorem k_204 (h : xC l s0 a0 dC dI cA) (hb : xb s0 s) : (Cond.methodLink "java/lang/Exception" 7 ⟨"java/lang/Throwable", "<init>", "(Ljava/lang/String;)V"⟩).before args s = true := h.w hb 209 rfl rfl
theorem k_205 (h : xC l s0 a0 dC dI cA) (hb : xb s0 s) : (Cond.instanceMethod ⟨"java/lang/Throwable", "<init>", "(Ljava/lang/String;)V"⟩).before args s = true := h.w hb 210 rfl rfl
theorem k_206 (h : xC l s0 a0 dC dI cA) (hb : xb s0 s) : (Cond.code ⟨"java/lang/Throwable", "<init>", "(Ljava/lang/String;)V"⟩ prog_19_method_2_code 2 none).before args s = true := h.w hb 211 rfl rfl
theorem k_207 (h : xC l s0 a0 dC dI cA) (hb : xb s0 s) : (Cond.fieldLink "java/lang/NullPointerException" 10 "java/lang/NullPointerException" "extendedMessageState" "I").before args s = true := h.w hb 212 rfl rfl
theorem k_208 (h : xC l s0 a0 dC dI cA) (hb : xb s0 s) : (Cond.fieldLink "java/lang/NullPointerException" 20 "java/lang/NullPointerException" "extendedMessage" "Ljava/lang/String;").before args s = true := h.w hb 213 rfl rfl
theorem k_209 (h : xC l s0 a0 dC dI cA) (hb : xb s0 s) : (Cond.fieldLink "java/lang/Throwable" 198 "java/lang/Throwable" "backtrace" "Ljava/lang/Object;").before args s = true := h.w hb 214 rfl rfl
theorem k_210 (h : xC l s0 a0 dC dI cA) (hb : xb s0 s) : (Cond.fieldLink "java/lang/Throwable" 31 "java/lang/Throwable" "detailMessage" "Ljava/lang/String;").before args s = true := h.w hb 215 rfl rfl
theorem k_211 (h : xC l s0 a0 dC dI cA) (hb : xb s0 s) : (Cond.fieldLink "java/lang/Throwable" 7 "java/lang/Throwable" "cause" "Ljava/lang/Throwable;").before args s = true := h.w hb 216 rfl rfl
theorem k_212 (h : xC l s0 a0 dC dI cA) (hb : xb s0 s) : (Cond.fieldLink "java/lang/Throwable" 17 "java/lang/Throwable" "stackTrace" "[Ljava/lang/StackTraceElement;").before args s = true := h.w hb 217 rfl rfl
theorem k_213 (h : xC l s0 a0 dC dI cA) (hb : xb s0 s) : (Cond.fieldLink "java/lang/Throwable" 24 "java/lang/Throwable" "suppressedExceptions" "Ljava/util/List;").before args s = true := h.w hb 218 rfl rfl
theorem k_226 (h : xC l s0 a0 dC dI cA) (hb : xb s0 s) : (Cond.methodLink RX5 45 yX4_cellCount).before args s = true := h.w hb 231 rfl rfl
theorem k_227 (h : xC l s0 a0 dC dI cA) (hb : xb s0 s) : (Cond.instanceMethod yX4_cellCount).before args s = true := h.w hb 232 rfl rfl
theorem k_228 (h : xC l s0 a0 dC dI cA) (hb : xb s0 s) : (Cond.selects RX4 yX4_cellCount yX4_cellCount).before args s = true := h.w hb 233 rfl rfl
theorem k_229 (h : xC l s0 a0 dC dI cA) (hb : xb s0 s) : (Cond.code yX4_cellCount cX4_cellCount 2 (some .int)).before args s = true := h.w hb 234 rfl rfl
theorem k_230 (h : xC l s0 a0 dC dI cA) (hb : xb s0 s) : (Cond.methodLink RX5 48 yX5_needPlace).before args s = true := h.w hb 235 rfl rfl
theorem k_231 (h : xC l s0 a0 dC dI cA) (hb : xb s0 s) : (Cond.static yX5_needPlace).before args s = true := h.w hb 236 rfl rfl
theorem k_232 (h : xC l s0 a0 dC dI cA) (hb : xb s0 s) : (Cond.code yX5_needPlace cX5_needPlace 2 none).before args s = true := h.w hb 237 rfl rfl
theorem k_233 (h : xC l s0 a0 dC dI cA) (hb : xb s0 s) : (Cond.classLink RX5 141 "java/lang/ArrayIndexOutOfBoundsException").before args s = true := h.w hb 238 rfl rfl
theorem k_234 (h : xC l s0 a0 dC dI cA) (hb : xb s0 s) : (Cond.instantiable "java/lang/ArrayIndexOutOfBoundsException" 6).before args s = true := h.w hb 239 rfl rfl
theorem k_235 (h : xC l s0 a0 dC dI cA) (hb : xb s0 s) : (Cond.castable "java/lang/ArrayIndexOutOfBoundsException" "java/lang/ArrayIndexOutOfBoundsException").before args s = true := h.w hb 240 rfl rfl
theorem k_238 (h : xC l s0 a0 dC dI cA) (hb : xb s0 s) : (Cond.selects "java/lang/ArrayIndexOutOfBoundsException" ⟨"java/lang/Throwable", "fillInStackTrace", "(I)Ljava/lang/Throwable;"⟩ ⟨"java/lang/Throwable", "fillInStackTrace", "(I)Ljava/lang/Throwable;"⟩).before args s = true := h.w hb 243 rfl rfl
theorem k_244 (h : xC l s0 a0 dC dI cA) (hb : xb s0 s) : (Cond.stringRef RX5 143 "no such place").before args s = true := h.str hb 249 rfl
theorem k_245 (h : xC l s0 a0 dC dI cA) (hb : xb s0 s) : (Cond.methodLink RX5 145 ⟨"java/lang/ArrayIndexOutOfBoundsException", "<init>", "(Ljava/lang/String;)V"⟩).before args s = true := h.w hb 250 rfl rfl
theorem k_246 (h : xC l s0 a0 dC dI cA) (hb : xb s0 s) : (Cond.instanceMethod ⟨"java/lang/ArrayIndexOutOfBoundsException", "<init>", "(Ljava/lang/String;)V"⟩).before args s = true := h.w hb 251 rfl rfl
theorem k_247 (h : xC l s0 a0 dC dI cA) (hb : xb s0 s) : (Cond.code ⟨"java/lang/ArrayIndexOutOfBoundsException", "<init>", "(Ljava/lang/String;)V"⟩ prog_10_method_2_code 2 none).before args s = true := h.w hb 252 rfl rfl
theorem k_248 (h : xC l s0 a0 dC dI cA) (hb : xb s0 s) : (Cond.methodLink "java/lang/ArrayIndexOutOfBoundsException" 7 ⟨"java/lang/IndexOutOfBoundsException", "<init>", "(Ljava/lang/String;)V"⟩).before args s = true := h.w hb 253 rfl rfl
theorem k_249 (h : xC l s0 a0 dC dI cA) (hb : xb s0 s) : (Cond.instanceMethod ⟨"java/lang/IndexOutOfBoundsException", "<init>", "(Ljava/lang/String;)V"⟩).before args s = true := h.w hb 254 rfl rfl
theorem k_250 (h : xC l s0 a0 dC dI cA) (hb : xb s0 s) : (Cond.code ⟨"java/lang/IndexOutOfBoundsException", "<init>", "(Ljava/lang/String;)V"⟩ prog_14_method_2_code 2 none).before args s = true := h.w hb 255 rfl rfl
theorem k_251 (h : xC l s0 a0 dC dI cA) (hb : xb s0 s) : (Cond.methodLink "java/lang/IndexOutOfBoundsException" 7 ⟨"java/lang/RuntimeException", "<init>", "(Ljava/lang/String;)V"⟩).before args s = true := h.w hb 256 rfl rfl
theorem k_254 (h : xC l s0 a0 dC dI cA) (hb : xb s0 s) : (Cond.methodLink RX5 52 yX4_numberAt).before args s = true := h.w hb 259 rfl rfl
theorem k_255 (h : xC l s0 a0 dC dI cA) (hb : xb s0 s) : (Cond.instanceMethod yX4_numberAt).before args s = true := h.w hb 260 rfl rfl
theorem k_256 (h : xC l s0 a0 dC dI cA) (hb : xb s0 s) : (Cond.selects RX4 yX4_numberAt yX4_numberAt).before args s = true := h.w hb 261 rfl rfl
theorem k_257 (h : xC l s0 a0 dC dI cA) (hb : xb s0 s) : (Cond.code yX4_numberAt cX4_numberAt 3 (some .long)).before args s = true := h.w hb 262 rfl rfl
theorem k_258 (h : xC l s0 a0 dC dI cA) (hb : xb s0 s) : (Cond.methodLink RL 89 yL_write).before args s = true := h.w hb 263 rfl rfl
theorem k_259 (h : xC l s0 a0 dC dI cA) (hb : xb s0 s) : (Cond.static yL_write).before args s = true := h.w hb 264 rfl rfl
theorem k_260 (h : xC l s0 a0 dC dI cA) (hb : xb s0 s) : (Cond.codeWith yL_write cL_write 7 (some .int) [(0, 14, 17, 13), (0, 14, 21, 15)]).before args s = true := h.w hb 265 rfl rfl
theorem k_261 (h : xC l s0 a0 dC dI cA) (hb : xb s0 s) : (Cond.methodLink RL 17 yX5_write).before args s = true := h.w hb 266 rfl rfl
theorem k_262 (h : xC l s0 a0 dC dI cA) (hb : xb s0 s) : (Cond.instanceMethod yX5_write).before args s = true := h.w hb 267 rfl rfl
theorem k_263 (h : xC l s0 a0 dC dI cA) (hb : xb s0 s) : (Cond.selects RX5 yX5_write yX5_write).before args s = true := h.w hb 268 rfl rfl
theorem k_264 (h : xC l s0 a0 dC dI cA) (hb : xb s0 s) : (Cond.code yX5_write cX5_write 6 (some .int)).before args s = true := h.w hb 269 rfl rfl
theorem k_265 (h : xC l s0 a0 dC dI cA) (hb : xb s0 s) : (Cond.methodLink RX5 56 yX4_store).before args s = true := h.w hb 270 rfl rfl
theorem k_266 (h : xC l s0 a0 dC dI cA) (hb : xb s0 s) : (Cond.instanceMethod yX4_store).before args s = true := h.w hb 271 rfl rfl
theorem k_267 (h : xC l s0 a0 dC dI cA) (hb : xb s0 s) : (Cond.selects RX4 yX4_store yX4_store).before args s = true := h.w hb 272 rfl rfl
theorem k_268 (h : xC l s0 a0 dC dI cA) (hb : xb s0 s) : (Cond.code yX4_store cX4_store 4 none).before args s = true := h.w hb 273 rfl rfl
theorem k_269 (h : xC l s0 a0 dC dI cA) (hb : xb s0 s) : (Cond.methodLink RL 93 yL_length).before args s = true := h.w hb 274 rfl rfl
theorem k_270 (h : xC l s0 a0 dC dI cA) (hb : xb s0 s) : (Cond.static yL_length).before args s = true := h.w hb 275 rfl rfl
theorem k_271 (h : xC l s0 a0 dC dI cA) (hb : xb s0 s) : (Cond.codeWith yL_length cL_length 5 (some .int) [(0, 10, 13, 13)]).before args s = true := h.w hb 276 rfl rfl
theorem k_272 (h : xC l s0 a0 dC dI cA) (hb : xb s0 s) : (Cond.methodLink RL 21 yX5_length).before args s = true := h.w hb 277 rfl rfl
theorem k_273 (h : xC l s0 a0 dC dI cA) (hb : xb s0 s) : (Cond.instanceMethod yX5_length).before args s = true := h.w hb 278 rfl rfl
theorem k_274 (h : xC l s0 a0 dC dI cA) (hb : xb s0 s) : (Cond.selects RX5 yX5_length yX5_length).before args s = true := h.w hb 279 rfl rfl
theorem k_275 (h : xC l s0 a0 dC dI cA) (hb : xb s0 s) : (Cond.code yX5_length cX5_length 3 (some .int)).before args s = true := h.w hb 280 rfl rfl
theorem k_276 (h : xC l s0 a0 dC dI cA) (hb : xb s0 s) : (Cond.methodLink RL 97 yL_make).before args s = true := h.w hb 281 rfl rfl
theorem k_277 (h : xC l s0 a0 dC dI cA) (hb : xb s0 s) : (Cond.static yL_make).before args s = true := h.w hb 282 rfl rfl
theorem k_278 (h : xC l s0 a0 dC dI cA) (hb : xb s0 s) : (Cond.codeWith yL_make cL_make 5 (some .int) [(0, 10, 13, 29)]).before args s = true := h.w hb 283 rfl rfl
theorem k_279 (h : xC l s0 a0 dC dI cA) (hb : xb s0 s) : (Cond.classLink RL 29 "java/lang/NegativeArraySizeException").before args s = true := h.w hb 284 rfl rfl
theorem k_280 (h : xC l s0 a0 dC dI cA) (hb : xb s0 s) : (Cond.methodLink RL 25 yX5_make).before args s = true := h.w hb 285 rfl rfl
theorem k_281 (h : xC l s0 a0 dC dI cA) (hb : xb s0 s) : (Cond.instanceMethod yX5_make).before args s = true := h.w hb 286 rfl rfl
theorem k_282 (h : xC l s0 a0 dC dI cA) (hb : xb s0 s) : (Cond.selects RX5 yX5_make yX5_make).before args s = true := h.w hb 287 rfl rfl
theorem k_283 (h : xC l s0 a0 dC dI cA) (hb : xb s0 s) : (Cond.code yX5_make cX5_make 4 (some .int)).before args s = true := h.w hb 288 rfl rfl
theorem k_284 (h : xC l s0 a0 dC dI cA) (hb : xb s0 s) : (Cond.methodLink RX5 60 yX5_needSize).before args s = true := h.w hb 289 rfl rfl
theorem k_285 (h : xC l s0 a0 dC dI cA) (hb : xb s0 s) : (Cond.static yX5_needSize).before args s = true := h.w hb 290 rfl rfl
theorem k_286 (h : xC l s0 a0 dC dI cA) (hb : xb s0 s) : (Cond.code yX5_needSize cX5_needSize 1 none).before args s = true := h.w hb 291 rfl rfl
theorem k_287 (h : xC l s0 a0 dC dI cA) (hb : xb s0 s) : (Cond.classLink RX5 146 "java/lang/NegativeArraySizeException").before args s = true := h.w hb 292 rfl rfl
theorem k_288 (h : xC l s0 a0 dC dI cA) (hb : xb s0 s) : (Cond.instantiable "java/lang/NegativeArraySizeException" 6).before args s = true := h.w hb 293 rfl rfl
theorem k_289 (h : xC l s0 a0 dC dI cA) (hb : xb s0 s) : (Cond.castable "java/lang/NegativeArraySizeException" "java/lang/NegativeArraySizeException").before args s = true := h.w hb 294 rfl rfl
theorem k_290 (h : xC l s0 a0 dC dI cA) (hb : xb s0 s) : (Cond.selects "java/lang/NegativeArraySizeException" ⟨"java/lang/Throwable", "fillInStackTrace", "(I)Ljava/lang/Throwable;"⟩ ⟨"java/lang/Throwable", "fillInStackTrace", "(I)Ljava/lang/Throwable;"⟩).before args s = true := h.w hb 295 rfl rfl
theorem k_296 (h : xC l s0 a0 dC dI cA) (hb : xb s0 s) : (Cond.stringRef RX5 148 "a size below 0").before args s = true := h.str hb 301 rfl
theorem k_297 (h : xC l s0 a0 dC dI cA) (hb : xb s0 s) : (Cond.methodLink RX5 150 ⟨"java/lang/NegativeArraySizeException", "<init>", "(Ljava/lang/String;)V"⟩).before args s = true := h.w hb 302 rfl rfl
theorem k_298 (h : xC l s0 a0 dC dI cA) (hb : xb s0 s) : (Cond.instanceMethod ⟨"java/lang/NegativeArraySizeException", "<init>", "(Ljava/lang/String;)V"⟩).before args s = true := h.w hb 303 rfl rfl
theorem k_299 (h : xC l s0 a0 dC dI cA) (hb : xb s0 s) : (Cond.code ⟨"java/lang/NegativeArraySizeException", "<init>", "(Ljava/lang/String;)V"⟩ prog_15_method_2_code 2 none).before args s = true := h.w hb 304 rfl rfl
theorem k_300 (h : xC l s0 a0 dC dI cA) (hb : xb s0 s) : (Cond.methodLink "java/lang/NegativeArraySizeException" 7 ⟨"java/lang/RuntimeException", "<init>", "(Ljava/lang/String;)V"⟩).before args s = true := h.w hb 305 rfl rfl
theorem k_303 (h : xC l s0 a0 dC dI cA) (hb : xb s0 s) : (Cond.methodLink RX5 64 yX4_renew).before args s = true := h.w hb 308 rfl rfl
theorem k_304 (h : xC l s0 a0 dC dI cA) (hb : xb s0 s) : (Cond.instanceMethod yX4_renew).before args s = true := h.w hb 309 rfl rfl
theorem k_305 (h : xC l s0 a0 dC dI cA) (hb : xb s0 s) : (Cond.selects RX4 yX4_renew yX4_renew).before args s = true := h.w hb 310 rfl rfl
theorem k_306 (h : xC l s0 a0 dC dI cA) (hb : xb s0 s) : (Cond.code yX4_renew cX4_renew 4 none).before args s = true := h.w hb 311 rfl rfl
theorem k_307 (h : xC l s0 a0 dC dI cA) (hb : xb s0 s) : (Cond.methodLink RX4 46 yX4_store).before args s = true := h.w hb 312 rfl rfl
theorem k_308 (h : xC l s0 a0 dC dI cA) (hb : xb s0 s) : (Cond.methodLink RL 101 yL_grid).before args s = true := h.w hb 313 rfl rfl
theorem k_309 (h : xC l s0 a0 dC dI cA) (hb : xb s0 s) : (Cond.static yL_grid).before args s = true := h.w hb 314 rfl rfl
theorem k_310 (h : xC l s0 a0 dC dI cA) (hb : xb s0 s) : (Cond.codeWith yL_grid cL_grid 5 (some .int) [(0, 10, 13, 29)]).before args s = true := h.w hb 315 rfl rfl
theorem k_311 (h : xC l s0 a0 dC dI cA) (hb : xb s0 s) : (Cond.methodLink RL 31 yX5_grid).before args s = true := h.w hb 316 rfl rfl
theorem k_312 (h : xC l s0 a0 dC dI cA) (hb : xb s0 s) : (Cond.instanceMethod yX5_grid).before args s = true := h.w hb 317 rfl rfl
theorem k_313 (h : xC l s0 a0 dC dI cA) (hb : xb s0 s) : (Cond.selects RX5 yX5_grid yX5_grid).before args s = true := h.w hb 318 rfl rfl
theorem k_314 (h : xC l s0 a0 dC dI cA) (hb : xb s0 s) : (Cond.code yX5_grid cX5_grid 5 (some .int)).before args s = true := h.w hb 319 rfl rfl
theorem k_315 (h : xC l s0 a0 dC dI cA) (hb : xb s0 s) : (Cond.methodLink RX5 67 yX3_renew).before args s = true := h.w hb 320 rfl rfl
theorem k_316 (h : xC l s0 a0 dC dI cA) (hb : xb s0 s) : (Cond.instanceMethod yX3_renew).before args s = true := h.w hb 321 rfl rfl
theorem k_317 (h : xC l s0 a0 dC dI cA) (hb : xb s0 s) : (Cond.selects RX3 yX3_renew yX3_renew).before args s = true := h.w hb 322 rfl rfl
theorem k_318 (h : xC l s0 a0 dC dI cA) (hb : xb s0 s) : (Cond.code yX3_renew cX3_renew 3 none).before args s = true := h.w hb 323 rfl rfl
theorem k_319 (h : xC l s0 a0 dC dI cA) (hb : xb s0 s) : (Cond.methodLink RL 104 yL_cell).before args s = true := h.w hb 324 rfl rfl
theorem k_320 (h : xC l s0 a0 dC dI cA) (hb : xb s0 s) : (Cond.static yL_cell).before args s = true := h.w hb 325 rfl rfl
theorem k_321 (h : xC l s0 a0 dC dI cA) (hb : xb s0 s) : (Cond.codeWith yL_cell cL_cell 5 (some .int) [(0, 10, 13, 13), (0, 10, 17, 15)]).before args s = true := h.w hb 326 rfl rfl
theorem k_322 (h : xC l s0 a0 dC dI cA) (hb : xb s0 s) : (Cond.methodLink RL 34 yX5_cell).before args s = true := h.w hb 327 rfl rfl
theorem k_323 (h : xC l s0 a0 dC dI cA) (hb : xb s0 s) : (Cond.instanceMethod yX5_cell).before args s = true := h.w hb 328 rfl rfl
theorem k_324 (h : xC l s0 a0 dC dI cA) (hb : xb s0 s) : (Cond.selects RX5 yX5_cell yX5_cell).before args s = true := h.w hb 329 rfl rfl
theorem k_325 (h : xC l s0 a0 dC dI cA) (hb : xb s0 s) : (Cond.code yX5_cell cX5_cell 3 (some .int)).before args s = true := h.w hb 330 rfl rfl
theorem k_326 (h : xC l s0 a0 dC dI cA) (hb : xb s0 s) : (Cond.methodLink RX5 68 yX3_isMade).before args s = true := h.w hb 331 rfl rfl
theorem k_327 (h : xC l s0 a0 dC dI cA) (hb : xb s0 s) : (Cond.instanceMethod yX3_isMade).before args s = true := h.w hb 332 rfl rfl
theorem k_328 (h : xC l s0 a0 dC dI cA) (hb : xb s0 s) : (Cond.selects RX3 yX3_isMade yX3_isMade).before args s = true := h.w hb 333 rfl rfl
theorem k_329 (h : xC l s0 a0 dC dI cA) (hb : xb s0 s) : (Cond.code yX3_isMade cX3_isMade 1 (some .boolean)).before args s = true := h.w hb 334 rfl rfl
theorem k_330 (h : xC l s0 a0 dC dI cA) (hb : xb s0 s) : (Cond.methodLink RX5 72 yX3_rowCount).before args s = true := h.w hb 335 rfl rfl
theorem k_331 (h : xC l s0 a0 dC dI cA) (hb : xb s0 s) : (Cond.instanceMethod yX3_rowCount).before args s = true := h.w hb 336 rfl rfl
theorem k_332 (h : xC l s0 a0 dC dI cA) (hb : xb s0 s) : (Cond.selects RX3 yX3_rowCount yX3_rowCount).before args s = true := h.w hb 337 rfl rfl
theorem k_333 (h : xC l s0 a0 dC dI cA) (hb : xb s0 s) : (Cond.code yX3_rowCount cX3_rowCount 1 (some .int)).before args s = true := h.w hb 338 rfl rfl
theorem k_334 (h : xC l s0 a0 dC dI cA) (hb : xb s0 s) : (Cond.methodLink RX5 76 yX3_columnCount).before args s = true := h.w hb 339 rfl rfl
theorem k_335 (h : xC l s0 a0 dC dI cA) (hb : xb s0 s) : (Cond.instanceMethod yX3_columnCount).before args s = true := h.w hb 340 rfl rfl
theorem k_336 (h : xC l s0 a0 dC dI cA) (hb : xb s0 s) : (Cond.selects RX3 yX3_columnCount yX3_columnCount).before args s = true := h.w hb 341 rfl rfl
theorem k_337 (h : xC l s0 a0 dC dI cA) (hb : xb s0 s) : (Cond.code yX3_columnCount cX3_columnCount 1 (some .int)).before args s = true := h.w hb 342 rfl rfl
theorem k_338 (h : xC l s0 a0 dC dI cA) (hb : xb s0 s) : (Cond.methodLink RX5 79 yX3_numberAt).before args s = true := h.w hb 343 rfl rfl
theorem k_339 (h : xC l s0 a0 dC dI cA) (hb : xb s0 s) : (Cond.instanceMethod yX3_numberAt).before args s = true := h.w hb 344 rfl rfl
theorem k_340 (h : xC l s0 a0 dC dI cA) (hb : xb s0 s) : (Cond.selects RX3 yX3_numberAt yX3_numberAt).before args s = true := h.w hb 345 rfl rfl
theorem k_341 (h : xC l s0 a0 dC dI cA) (hb : xb s0 s) : (Cond.code yX3_numberAt cX3_numberAt 3 (some .int)).before args s = true := h.w hb 346 rfl rfl
theorem k_342 (h : xC l s0 a0 dC dI cA) (hb : xb s0 s) : (Cond.methodLink RL 107 yL_boxes).before args s = true := h.w hb 347 rfl rfl
theorem k_343 (h : xC l s0 a0 dC dI cA) (hb : xb s0 s) : (Cond.static yL_boxes).before args s = true := h.w hb 348 rfl rfl
theorem k_344 (h : xC l s0 a0 dC dI cA) (hb : xb s0 s) : (Cond.codeWith yL_boxes cL_boxes 5 (some .int) [(0, 10, 13, 29)]).before args s = true := h.w hb 349 rfl rfl
theorem k_345 (h : xC l s0 a0 dC dI cA) (hb : xb s0 s) : (Cond.methodLink RL 37 yX5_boxes).before args s = true := h.w hb 350 rfl rfl
theorem k_346 (h : xC l s0 a0 dC dI cA) (hb : xb s0 s) : (Cond.instanceMethod yX5_boxes).before args s = true := h.w hb 351 rfl rfl
theorem k_347 (h : xC l s0 a0 dC dI cA) (hb : xb s0 s) : (Cond.selects RX5 yX5_boxes yX5_boxes).before args s = true := h.w hb 352 rfl rfl
theorem k_348 (h : xC l s0 a0 dC dI cA) (hb : xb s0 s) : (Cond.code yX5_boxes cX5_boxes 4 (some .int)).before args s = true := h.w hb 353 rfl rfl
theorem k_349 (h : xC l s0 a0 dC dI cA) (hb : xb s0 s) : (Cond.methodLink RX5 82 yX1_renew).before args s = true := h.w hb 354 rfl rfl
theorem k_350 (h : xC l s0 a0 dC dI cA) (hb : xb s0 s) : (Cond.instanceMethod yX1_renew).before args s = true := h.w hb 355 rfl rfl
theorem k_351 (h : xC l s0 a0 dC dI cA) (hb : xb s0 s) : (Cond.selects RX1 yX1_renew yX1_renew).before args s = true := h.w hb 356 rfl rfl
theorem k_352 (h : xC l s0 a0 dC dI cA) (hb : xb s0 s) : (Cond.code yX1_renew cX1_renew 4 none).before args s = true := h.w hb 357 rfl rfl
theorem k_353 (h : xC l s0 a0 dC dI cA) (hb : xb s0 s) : (Cond.methodLink RL 110 yL_put).before args s = true := h.w hb 358 rfl rfl
theorem k_354 (h : xC l s0 a0 dC dI cA) (hb : xb s0 s) : (Cond.static yL_put).before args s = true := h.w hb 359 rfl rfl
theorem k_355 (h : xC l s0 a0 dC dI cA) (hb : xb s0 s) : (Cond.codeWith yL_put cL_put 7 (some .int) [(0, 14, 17, 13), (0, 14, 21, 15), (0, 14, 25, 44)]).before args s = true := h.w hb 360 rfl rfl
theorem k_356 (h : xC l s0 a0 dC dI cA) (hb : xb s0 s) : (Cond.classLink RL 44 "java/lang/ArrayStoreException").before args s = true := h.w hb 361 rfl rfl
theorem k_357 (h : xC l s0 a0 dC dI cA) (hb : xb s0 s) : (Cond.methodLink RL 40 yX5_put).before args s = true := h.w hb 362 rfl rfl
theorem k_358 (h : xC l s0 a0 dC dI cA) (hb : xb s0 s) : (Cond.instanceMethod yX5_put).before args s = true := h.w hb 363 rfl rfl
theorem k_359 (h : xC l s0 a0 dC dI cA) (hb : xb s0 s) : (Cond.selects RX5 yX5_put yX5_put).before args s = true := h.w hb 364 rfl rfl
theorem k_360 (h : xC l s0 a0 dC dI cA) (hb : xb s0 s) : (Cond.code yX5_put cX5_put 6 (some .int)).before args s = true := h.w hb 365 rfl rfl
theorem k_361 (h : xC l s0 a0 dC dI cA) (hb : xb s0 s) : (Cond.methodLink RX5 85 yX1_isMade).before args s = true := h.w hb 366 rfl rfl
theorem k_362 (h : xC l s0 a0 dC dI cA) (hb : xb s0 s) : (Cond.instanceMethod yX1_isMade).before args s = true := h.w hb 367 rfl rfl
theorem k_363 (h : xC l s0 a0 dC dI cA) (hb : xb s0 s) : (Cond.selects RX1 yX1_isMade yX1_isMade).before args s = true := h.w hb 368 rfl rfl
theorem k_364 (h : xC l s0 a0 dC dI cA) (hb : xb s0 s) : (Cond.code yX1_isMade cX1_isMade 1 (some .boolean)).before args s = true := h.w hb 369 rfl rfl
theorem k_365 (h : xC l s0 a0 dC dI cA) (hb : xb s0 s) : (Cond.methodLink RX5 86 yX1_placeCount).before args s = true := h.w hb 370 rfl rfl
theorem k_366 (h : xC l s0 a0 dC dI cA) (hb : xb s0 s) : (Cond.instanceMethod yX1_placeCount).before args s = true := h.w hb 371 rfl rfl
theorem k_367 (h : xC l s0 a0 dC dI cA) (hb : xb s0 s) : (Cond.selects RX1 yX1_placeCount yX1_placeCount).before args s = true := h.w hb 372 rfl rfl
theorem k_368 (h : xC l s0 a0 dC dI cA) (hb : xb s0 s) : (Cond.code yX1_placeCount cX1_placeCount 1 (some .int)).before args s = true := h.w hb 373 rfl rfl
theorem k_369 (h : xC l s0 a0 dC dI cA) (hb : xb s0 s) : (Cond.methodLink RX5 89 yX5_newBox).before args s = true := h.w hb 374 rfl rfl
theorem k_370 (h : xC l s0 a0 dC dI cA) (hb : xb s0 s) : (Cond.static yX5_newBox).before args s = true := h.w hb 375 rfl rfl
theorem k_371 (h : xC l s0 a0 dC dI cA) (hb : xb s0 s) : (Cond.code yX5_newBox cX5_newBox 2 (some (.object "FaultBench$Box"))).before args s = true := h.w hb 376 rfl rfl
theorem k_372 (h : xC l s0 a0 dC dI cA) (hb : xb s0 s) : (Cond.classLink RX5 112 RX0).before args s = true := h.w hb 377 rfl rfl
theorem k_373 (h : xC l s0 a0 dC dI cA) (hb : xb s0 s) : (Cond.instantiable RX0 1).before args s = true := h.w hb 378 rfl rfl
theorem k_374 (h : xC l s0 a0 dC dI cA) (hb : xb s0 s) : (Cond.methodLink RX5 153 yX0_init).before args s = true := h.w hb 379 rfl rfl
theorem k_375 (h : xC l s0 a0 dC dI cA) (hb : xb s0 s) : (Cond.instanceMethod yX0_init).before args s = true := h.w hb 380 rfl rfl
theorem k_376 (h : xC l s0 a0 dC dI cA) (hb : xb s0 s) : (Cond.code yX0_init cX0_init 2 none).before args s = true := h.w hb 381 rfl rfl
theorem k_377 (h : xC l s0 a0 dC dI cA) (hb : xb s0 s) : (Cond.methodLink RX0 1 ⟨"java/lang/Object", "<init>", "()V"⟩).before args s = true := h.w hb 382 rfl rfl
theorem k_378 (h : xC l s0 a0 dC dI cA) (hb : xb s0 s) : (Cond.fieldLink RX0 7 "FaultBench$Box" "value" "I").before args s = true := h.w hb 383 rfl rfl
theorem k_379 (h : xC l s0 a0 dC dI cA) (hb : xb s0 s) : (Cond.fieldLink RX2 7 "FaultBench$Disc" "value" "I").before args s = true := h.w hb 384 rfl rfl
theorem k_380 (h : xC l s0 a0 dC dI cA) (hb : xb s0 s) : (Cond.sameField "FaultBench$Disc" "FaultBench$Box" "value" "I").before args s = true := h.w hb 385 rfl rfl
theorem k_381 (h : xC l s0 a0 dC dI cA) (hb : xb s0 s) : (Cond.fieldLink RX5 111 "FaultBench$Box" "value" "I").before args s = true := h.w hb 386 rfl rfl
theorem k_385 (h : xC l s0 a0 dC dI cA) (hb : xb s0 s) : (Cond.classLink RX5 119 RX2).before args s = true := h.w hb 390 rfl rfl
theorem k_386 (h : xC l s0 a0 dC dI cA) (hb : xb s0 s) : (Cond.instantiable RX2 1).before args s = true := h.w hb 391 rfl rfl
theorem k_387 (h : xC l s0 a0 dC dI cA) (hb : xb s0 s) : (Cond.methodLink RX5 155 yX2_init).before args s = true := h.w hb 392 rfl rfl
theorem k_388 (h : xC l s0 a0 dC dI cA) (hb : xb s0 s) : (Cond.instanceMethod yX2_init).before args s = true := h.w hb 393 rfl rfl
theorem k_389 (h : xC l s0 a0 dC dI cA) (hb : xb s0 s) : (Cond.code yX2_init cX2_init 2 none).before args s = true := h.w hb 394 rfl rfl
theorem k_390 (h : xC l s0 a0 dC dI cA) (hb : xb s0 s) : (Cond.methodLink RX2 1 yX0_init).before args s = true := h.w hb 395 rfl rfl
theorem k_393 (h : xC l s0 a0 dC dI cA) (hb : xb s0 s) : (Cond.methodLink RX5 93 yX1_takes).before args s = true := h.w hb 398 rfl rfl
theorem k_394 (h : xC l s0 a0 dC dI cA) (hb : xb s0 s) : (Cond.instanceMethod yX1_takes).before args s = true := h.w hb 399 rfl rfl
theorem k_395 (h : xC l s0 a0 dC dI cA) (hb : xb s0 s) : (Cond.selects RX1 yX1_takes yX1_takes).before args s = true := h.w hb 400 rfl rfl
theorem k_396 (h : xC l s0 a0 dC dI cA) (hb : xb s0 s) : (Cond.code yX1_takes cX1_takes 2 (some .boolean)).before args s = true := h.w hb 401 rfl rfl
theorem k_397 (h : xC l s0 a0 dC dI cA) (hb : xb s0 s) : (Cond.classLink RX1 28 RX2).before args s = true := h.w hb 402 rfl rfl
theorem k_398 (h : xC l s0 a0 dC dI cA) (hb : xb s0 s) : (Cond.classLink RX5 97 "java/lang/ArrayStoreException").before args s = true := h.w hb 403 rfl rfl
theorem k_399 (h : xC l s0 a0 dC dI cA) (hb : xb s0 s) : (Cond.instantiable "java/lang/ArrayStoreException" 6).before args s = true := h.w hb 404 rfl rfl
theorem k_400 (h : xC l s0 a0 dC dI cA) (hb : xb s0 s) : (Cond.castable "java/lang/ArrayStoreException" "java/lang/ArrayStoreException").before args s = true := h.w hb 405 rfl rfl
set_option maxRecDepth 20000 in
theorem k_401 (h : xC l s0 a0 dC dI cA) (hb : xb s0 s) : (Cond.selects "java/lang/ArrayStoreException" ⟨"java/lang/Throwable", "fillInStackTrace", "(I)Ljava/lang/Throwable;"⟩ ⟨"java/lang/Throwable", "fillInStackTrace", "(I)Ljava/lang/Throwable;"⟩).before args s = true := h.w hb 406 rfl rfl
set_option maxRecDepth 20000 in
theorem k_407 (h : xC l s0 a0 dC dI cA) (hb : xb s0 s) : (Cond.stringRef RX5 99 "a box that is no disc").before args s = true := h.str hb 412 rfl
set_option maxRecDepth 20000 in
theorem k_408 (h : xC l s0 a0 dC dI cA) (hb : xb s0 s) : (Cond.methodLink RX5 101 ⟨"java/lang/ArrayStoreException", "<init>", "(Ljava/lang/String;)V"⟩).before args s = true := h.w hb 413 rfl rfl
set_option maxRecDepth 20000 in
theorem k_409 (h : xC l s0 a0 dC dI cA) (hb : xb s0 s) : (Cond.instanceMethod ⟨"java/lang/ArrayStoreException", "<init>", "(Ljava/lang/String;)V"⟩).before args s = true := h.w hb 414 rfl rfl
set_option maxRecDepth 20000 in
theorem k_410 (h : xC l s0 a0 dC dI cA) (hb : xb s0 s) : (Cond.code ⟨"java/lang/ArrayStoreException", "<init>", "(Ljava/lang/String;)V"⟩ prog_11_method_2_code 2 none).before args s = true := h.w hb 415 rfl rfl
set_option maxRecDepth 20000 in
theorem k_411 (h : xC l s0 a0 dC dI cA) (hb : xb s0 s) : (Cond.methodLink "java/lang/ArrayStoreException" 7 ⟨"java/lang/RuntimeException", "<init>", "(Ljava/lang/String;)V"⟩).before args s = true := h.w hb 416 rfl rfl
set_option maxRecDepth 20000 in
theorem k_414 (h : xC l s0 a0 dC dI cA) (hb : xb s0 s) : (Cond.methodLink RX5 104 yX1_store).before args s = true := h.w hb 419 rfl rfl
set_option maxRecDepth 20000 in
theorem k_415 (h : xC l s0 a0 dC dI cA) (hb : xb s0 s) : (Cond.instanceMethod yX1_store).before args s = true := h.w hb 420 rfl rfl
set_option maxRecDepth 20000 in
theorem k_416 (h : xC l s0 a0 dC dI cA) (hb : xb s0 s) : (Cond.selects RX1 yX1_store yX1_store).before args s = true := h.w hb 421 rfl rfl
set_option maxRecDepth 20000 in
theorem k_417 (h : xC l s0 a0 dC dI cA) (hb : xb s0 s) : (Cond.code yX1_store cX1_store 3 none).before args s = true := h.w hb 422 rfl rfl
set_option maxRecDepth 20000 in
theorem k_418 (h : xC l s0 a0 dC dI cA) (hb : xb s0 s) : (Cond.methodLink RL 114 yL_value).before args s = true := h.w hb 423 rfl rfl
set_option maxRecDepth 20000 in
theorem k_419 (h : xC l s0 a0 dC dI cA) (hb : xb s0 s) : (Cond.static yL_value).before args s = true := h.w hb 424 rfl rfl
set_option maxRecDepth 20000 in
theorem k_420 (h : xC l s0 a0 dC dI cA) (hb : xb s0 s) : (Cond.codeWith yL_value cL_value 4 (some .int) [(0, 9, 12, 13), (0, 9, 15, 15)]).before args s = true := h.w hb 425 rfl rfl
set_option maxRecDepth 20000 in
theorem k_421 (h : xC l s0 a0 dC dI cA) (hb : xb s0 s) : (Cond.methodLink RL 46 yX5_value).before args s = true := h.w hb 426 rfl rfl
set_option maxRecDepth 20000 in
theorem k_422 (h : xC l s0 a0 dC dI cA) (hb : xb s0 s) : (Cond.instanceMethod yX5_value).before args s = true := h.w hb 427 rfl rfl
set_option maxRecDepth 20000 in
theorem k_423 (h : xC l s0 a0 dC dI cA) (hb : xb s0 s) : (Cond.selects RX5 yX5_value yX5_value).before args s = true := h.w hb 428 rfl rfl
set_option maxRecDepth 20000 in
theorem k_424 (h : xC l s0 a0 dC dI cA) (hb : xb s0 s) : (Cond.code yX5_value cX5_value 2 (some .int)).before args s = true := h.w hb 429 rfl rfl
set_option maxRecDepth 20000 in
theorem k_425 (h : xC l s0 a0 dC dI cA) (hb : xb s0 s) : (Cond.methodLink RX5 107 yX5_boxAt).before args s = true := h.w hb 430 rfl rfl
set_option maxRecDepth 20000 in
theorem k_427 (h : xC l s0 a0 dC dI cA) (hb : xb s0 s) : (Cond.instanceMethod yX5_boxAt).before args s = true := h.w hb 432 rfl rfl
set_option maxRecDepth 20000 in
theorem k_428 (h : xC l s0 a0 dC dI cA) (hb : xb s0 s) : (Cond.code yX5_boxAt cX5_boxAt 3 (some (.object "FaultBench$Box"))).before args s = true := h.w hb 433 rfl rfl
set_option maxRecDepth 20000 in
theorem k_429 (h : xC l s0 a0 dC dI cA) (hb : xb s0 s) : (Cond.methodLink RX5 156 yX1_boxAtPlace).before args s = true := h.w hb 434 rfl rfl
set_option maxRecDepth 20000 in
theorem k_430 (h : xC l s0 a0 dC dI cA) (hb : xb s0 s) : (Cond.instanceMethod yX1_boxAtPlace).before args s = true := h.w hb 435 rfl rfl
set_option maxRecDepth 20000 in
theorem k_431 (h : xC l s0 a0 dC dI cA) (hb : xb s0 s) : (Cond.selects RX1 yX1_boxAtPlace yX1_boxAtPlace).before args s = true := h.w hb 436 rfl rfl
set_option maxRecDepth 20000 in
theorem k_432 (h : xC l s0 a0 dC dI cA) (hb : xb s0 s) : (Cond.code yX1_boxAtPlace cX1_boxAtPlace 2 (some (.object "FaultBench$Box"))).before args s = true := h.w hb 437 rfl rfl
set_option maxRecDepth 20000 in
theorem k_433 (h : xC l s0 a0 dC dI cA) (hb : xb s0 s) : (Cond.stringRef RX5 159 "no box at this place").before args s = true := h.str hb 438 rfl
set_option maxRecDepth 20000 in
theorem k_434 (h : xC l s0 a0 dC dI cA) (hb : xb s0 s) : (Cond.methodLink RL 118 yL_change).before args s = true := h.w hb 439 rfl rfl
set_option maxRecDepth 20000 in
theorem k_435 (h : xC l s0 a0 dC dI cA) (hb : xb s0 s) : (Cond.static yL_change).before args s = true := h.w hb 440 rfl rfl
set_option maxRecDepth 20000 in
theorem k_436 (h : xC l s0 a0 dC dI cA) (hb : xb s0 s) : (Cond.codeWith yL_change cL_change 5 (some .int) [(0, 10, 13, 13), (0, 10, 17, 15)]).before args s = true := h.w hb 441 rfl rfl
set_option maxRecDepth 20000 in
theorem k_437 (h : xC l s0 a0 dC dI cA) (hb : xb s0 s) : (Cond.methodLink RL 50 yX5_change).before args s = true := h.w hb 442 rfl rfl
set_option maxRecDepth 20000 in
theorem k_438 (h : xC l s0 a0 dC dI cA) (hb : xb s0 s) : (Cond.instanceMethod yX5_change).before args s = true := h.w hb 443 rfl rfl
set_option maxRecDepth 20000 in
theorem k_439 (h : xC l s0 a0 dC dI cA) (hb : xb s0 s) : (Cond.selects RX5 yX5_change yX5_change).before args s = true := h.w hb 444 rfl rfl
set_option maxRecDepth 20000 in
theorem k_440 (h : xC l s0 a0 dC dI cA) (hb : xb s0 s) : (Cond.code yX5_change cX5_change 5 (some .int)).before args s = true := h.w hb 445 rfl rfl
set_option maxRecDepth 20000 in
theorem k_441 (h : xC l s0 a0 dC dI cA) (hb : xb s0 s) : (Cond.methodLink RL 121 yL_weigh).before args s = true := h.w hb 446 rfl rfl
set_option maxRecDepth 20000 in
theorem k_442 (h : xC l s0 a0 dC dI cA) (hb : xb s0 s) : (Cond.static yL_weigh).before args s = true := h.w hb 447 rfl rfl
set_option maxRecDepth 20000 in
theorem k_443 (h : xC l s0 a0 dC dI cA) (hb : xb s0 s) : (Cond.codeWith yL_weigh cL_weigh 5 (some .int) [(0, 10, 13, 13), (0, 10, 17, 15)]).before args s = true := h.w hb 448 rfl rfl
set_option maxRecDepth 20000 in
theorem k_444 (h : xC l s0 a0 dC dI cA) (hb : xb s0 s) : (Cond.methodLink RL 53 yX5_weigh).before args s = true := h.w hb 449 rfl rfl
set_option maxRecDepth 20000 in
theorem k_445 (h : xC l s0 a0 dC dI cA) (hb : xb s0 s) : (Cond.instanceMethod yX5_weigh).before args s = true := h.w hb 450 rfl rfl
set_option maxRecDepth 20000 in
theorem k_446 (h : xC l s0 a0 dC dI cA) (hb : xb s0 s) : (Cond.selects RX5 yX5_weigh yX5_weigh).before args s = true := h.w hb 451 rfl rfl
set_option maxRecDepth 20000 in
theorem k_447 (h : xC l s0 a0 dC dI cA) (hb : xb s0 s) : (Cond.code yX5_weigh cX5_weigh 3 (some .int)).before args s = true := h.w hb 452 rfl rfl
set_option maxRecDepth 20000 in
theorem k_448 (h : xC l s0 a0 dC dI cA) (hb : xb s0 s) : (Cond.methodLink RX5 116 yX0_weightWith).before args s = true := h.w hb 453 rfl rfl
set_option maxRecDepth 20000 in
theorem k_449 (h : xC l s0 a0 dC dI cA) (hb : xb s0 s) : (Cond.instanceMethod yX0_weightWith).before args s = true := h.w hb 454 rfl rfl
set_option maxRecDepth 20000 in
theorem k_450 (h : xC l s0 a0 dC dI cA) (hb : xb s0 s) : (Cond.selects RX0 yX0_weightWith yX0_weightWith).before args s = true := h.w hb 455 rfl rfl
set_option maxRecDepth 20000 in
theorem k_451 (h : xC l s0 a0 dC dI cA) (hb : xb s0 s) : (Cond.sameMethod "FaultBench$Box" "FaultBench$Box" "weightWith" "(I)I").before args s = true := h.w hb 456 rfl rfl
set_option maxRecDepth 20000 in
theorem k_452 (h : xC l s0 a0 dC dI cA) (hb : xb s0 s) : (Cond.selects RX2 yX0_weightWith yX2_weightWith).before args s = true := h.w hb 457 rfl rfl
set_option maxRecDepth 20000 in
theorem k_453 (h : xC l s0 a0 dC dI cA) (hb : xb s0 s) : (Cond.instanceMethod yX2_weightWith).before args s = true := h.w hb 458 rfl rfl
set_option maxRecDepth 20000 in
theorem k_454 (h : xC l s0 a0 dC dI cA) (hb : xb s0 s) : (Cond.code yX2_weightWith cX2_weightWith 2 (some .int)).before args s = true := h.w hb 459 rfl rfl
set_option maxRecDepth 20000 in
theorem k_455 (h : xC l s0 a0 dC dI cA) (hb : xb s0 s) : (Cond.code yX0_weightWith cX0_weightWith 2 (some .int)).before args s = true := h.w hb 460 rfl rfl
set_option maxRecDepth 20000 in
theorem k_456 (h : xC l s0 a0 dC dI cA) (hb : xb s0 s) : (Cond.methodLink RL 124 yL_roll).before args s = true := h.w hb 461 rfl rfl
set_option maxRecDepth 20000 in
theorem k_457 (h : xC l s0 a0 dC dI cA) (hb : xb s0 s) : (Cond.static yL_roll).before args s = true := h.w hb 462 rfl rfl
set_option maxRecDepth 20000 in
theorem k_458 (h : xC l s0 a0 dC dI cA) (hb : xb s0 s) : (Cond.codeWith yL_roll cL_roll 5 (some .int) [(0, 10, 13, 13), (0, 10, 17, 15), (0, 10, 21, 59)]).before args s = true := h.w hb 463 rfl rfl
set_option maxRecDepth 20000 in
theorem k_459 (h : xC l s0 a0 dC dI cA) (hb : xb s0 s) : (Cond.classLink RL 59 "java/lang/ClassCastException").before args s = true := h.w hb 464 rfl rfl
set_option maxRecDepth 20000 in
theorem k_460 (h : xC l s0 a0 dC dI cA) (hb : xb s0 s) : (Cond.methodLink RL 56 yX5_roll).before args s = true := h.w hb 465 rfl rfl
set_option maxRecDepth 20000 in
theorem k_461 (h : xC l s0 a0 dC dI cA) (hb : xb s0 s) : (Cond.instanceMethod yX5_roll).before args s = true := h.w hb 466 rfl rfl
set_option maxRecDepth 20000 in
theorem k_462 (h : xC l s0 a0 dC dI cA) (hb : xb s0 s) : (Cond.selects RX5 yX5_roll yX5_roll).before args s = true := h.w hb 467 rfl rfl
set_option maxRecDepth 20000 in
theorem k_463 (h : xC l s0 a0 dC dI cA) (hb : xb s0 s) : (Cond.code yX5_roll cX5_roll 5 (some .int)).before args s = true := h.w hb 468 rfl rfl
set_option maxRecDepth 20000 in
theorem k_464 (h : xC l s0 a0 dC dI cA) (hb : xb s0 s) : (Cond.methodLink RX5 121 yX2_rolledWith).before args s = true := h.w hb 469 rfl rfl
set_option maxRecDepth 20000 in
theorem k_465 (h : xC l s0 a0 dC dI cA) (hb : xb s0 s) : (Cond.instanceMethod yX2_rolledWith).before args s = true := h.w hb 470 rfl rfl
set_option maxRecDepth 20000 in
theorem k_466 (h : xC l s0 a0 dC dI cA) (hb : xb s0 s) : (Cond.selects RX2 yX2_rolledWith yX2_rolledWith).before args s = true := h.w hb 471 rfl rfl
set_option maxRecDepth 20000 in
theorem k_467 (h : xC l s0 a0 dC dI cA) (hb : xb s0 s) : (Cond.code yX2_rolledWith cX2_rolledWith 2 (some .int)).before args s = true := h.w hb 472 rfl rfl
set_option maxRecDepth 20000 in
theorem k_468 (h : xC l s0 a0 dC dI cA) (hb : xb s0 s) : (Cond.classLink RX5 124 "java/lang/ClassCastException").before args s = true := h.w hb 473 rfl rfl
set_option maxRecDepth 20000 in
theorem k_469 (h : xC l s0 a0 dC dI cA) (hb : xb s0 s) : (Cond.instantiable "java/lang/ClassCastException" 6).before args s = true := h.w hb 474 rfl rfl
set_option maxRecDepth 20000 in
theorem k_470 (h : xC l s0 a0 dC dI cA) (hb : xb s0 s) : (Cond.castable "java/lang/ClassCastException" "java/lang/ClassCastException").before args s = true := h.w hb 475 rfl rfl
set_option maxRecDepth 20000 in
theorem k_471 (h : xC l s0 a0 dC dI cA) (hb : xb s0 s) : (Cond.selects "java/lang/ClassCastException" ⟨"java/lang/Throwable", "fillInStackTrace", "(I)Ljava/lang/Throwable;"⟩ ⟨"java/lang/Throwable", "fillInStackTrace", "(I)Ljava/lang/Throwable;"⟩).before args s = true := h.w hb 476 rfl rfl
set_option maxRecDepth 20000 in
theorem k_477 (h : xC l s0 a0 dC dI cA) (hb : xb s0 s) : (Cond.methodLink RX5 126 ⟨"java/lang/ClassCastException", "<init>", "(Ljava/lang/String;)V"⟩).before args s = true := h.w hb 482 rfl rfl
set_option maxRecDepth 20000 in
theorem k_478 (h : xC l s0 a0 dC dI cA) (hb : xb s0 s) : (Cond.instanceMethod ⟨"java/lang/ClassCastException", "<init>", "(Ljava/lang/String;)V"⟩).before args s = true := h.w hb 483 rfl rfl
set_option maxRecDepth 20000 in
theorem k_479 (h : xC l s0 a0 dC dI cA) (hb : xb s0 s) : (Cond.code ⟨"java/lang/ClassCastException", "<init>", "(Ljava/lang/String;)V"⟩ prog_12_method_2_code 2 none).before args s = true := h.w hb 484 rfl rfl
set_option maxRecDepth 20000 in
theorem k_480 (h : xC l s0 a0 dC dI cA) (hb : xb s0 s) : (Cond.methodLink "java/lang/ClassCastException" 7 ⟨"java/lang/RuntimeException", "<init>", "(Ljava/lang/String;)V"⟩).before args s = true := h.w hb 485 rfl rfl
set_option maxRecDepth 20000 in
theorem k_483 (h : xC l s0 a0 dC dI cA) (hb : xb s0 s) : (Cond.methodLink RL 127 yL_divide).before args s = true := h.w hb 488 rfl rfl
set_option maxRecDepth 20000 in
theorem k_484 (h : xC l s0 a0 dC dI cA) (hb : xb s0 s) : (Cond.static yL_divide).before args s = true := h.w hb 489 rfl rfl
set_option maxRecDepth 20000 in
theorem k_485 (h : xC l s0 a0 dC dI cA) (hb : xb s0 s) : (Cond.codeWith yL_divide cL_divide 6 (some .int) [(0, 12, 15, 65)]).before args s = true := h.w hb 490 rfl rfl
set_option maxRecDepth 20000 in
theorem k_486 (h : xC l s0 a0 dC dI cA) (hb : xb s0 s) : (Cond.classLink RL 65 "java/lang/ArithmeticException").before args s = true := h.w hb 491 rfl rfl
set_option maxRecDepth 20000 in
theorem k_487 (h : xC l s0 a0 dC dI cA) (hb : xb s0 s) : (Cond.methodLink RL 61 yX5_divide).before args s = true := h.w hb 492 rfl rfl
set_option maxRecDepth 20000 in
theorem k_488 (h : xC l s0 a0 dC dI cA) (hb : xb s0 s) : (Cond.instanceMethod yX5_divide).before args s = true := h.w hb 493 rfl rfl
set_option maxRecDepth 20000 in
theorem k_489 (h : xC l s0 a0 dC dI cA) (hb : xb s0 s) : (Cond.selects RX5 yX5_divide yX5_divide).before args s = true := h.w hb 494 rfl rfl
set_option maxRecDepth 20000 in
theorem k_490 (h : xC l s0 a0 dC dI cA) (hb : xb s0 s) : (Cond.code yX5_divide cX5_divide 4 (some .int)).before args s = true := h.w hb 495 rfl rfl
set_option maxRecDepth 20000 in
theorem k_491 (h : xC l s0 a0 dC dI cA) (hb : xb s0 s) : (Cond.methodLink RX5 127 yX5_needDivisor).before args s = true := h.w hb 496 rfl rfl
set_option maxRecDepth 20000 in
theorem k_492 (h : xC l s0 a0 dC dI cA) (hb : xb s0 s) : (Cond.static yX5_needDivisor).before args s = true := h.w hb 497 rfl rfl
set_option maxRecDepth 20000 in
theorem k_493 (h : xC l s0 a0 dC dI cA) (hb : xb s0 s) : (Cond.code yX5_needDivisor cX5_needDivisor 2 none).before args s = true := h.w hb 498 rfl rfl
set_option maxRecDepth 20000 in
theorem k_494 (h : xC l s0 a0 dC dI cA) (hb : xb s0 s) : (Cond.classLink RX5 131 "java/lang/ArithmeticException").before args s = true := h.w hb 499 rfl rfl
set_option maxRecDepth 20000 in
theorem k_495 (h : xC l s0 a0 dC dI cA) (hb : xb s0 s) : (Cond.instantiable "java/lang/ArithmeticException" 6).before args s = true := h.w hb 500 rfl rfl
set_option maxRecDepth 20000 in
theorem k_496 (h : xC l s0 a0 dC dI cA) (hb : xb s0 s) : (Cond.castable "java/lang/ArithmeticException" "java/lang/ArithmeticException").before args s = true := h.w hb 501 rfl rfl
set_option maxRecDepth 20000 in
theorem k_497 (h : xC l s0 a0 dC dI cA) (hb : xb s0 s) : (Cond.selects "java/lang/ArithmeticException" ⟨"java/lang/Throwable", "fillInStackTrace", "(I)Ljava/lang/Throwable;"⟩ ⟨"java/lang/Throwable", "fillInStackTrace", "(I)Ljava/lang/Throwable;"⟩).before args s = true := h.w hb 502 rfl rfl
set_option maxRecDepth 20000 in
theorem k_503 (h : xC l s0 a0 dC dI cA) (hb : xb s0 s) : (Cond.stringRef RX5 151 "a division by 0").before args s = true := h.str hb 508 rfl
set_option maxRecDepth 20000 in
theorem k_504 (h : xC l s0 a0 dC dI cA) (hb : xb s0 s) : (Cond.methodLink RX5 135 ⟨"java/lang/ArithmeticException", "<init>", "(Ljava/lang/String;)V"⟩).before args s = true := h.w hb 509 rfl rfl
set_option maxRecDepth 20000 in
theorem k_505 (h : xC l s0 a0 dC dI cA) (hb : xb s0 s) : (Cond.instanceMethod ⟨"java/lang/ArithmeticException", "<init>", "(Ljava/lang/String;)V"⟩).before args s = true := h.w hb 510 rfl rfl
set_option maxRecDepth 20000 in
theorem k_506 (h : xC l s0 a0 dC dI cA) (hb : xb s0 s) : (Cond.code ⟨"java/lang/ArithmeticException", "<init>", "(Ljava/lang/String;)V"⟩ prog_9_method_2_code 2 none).before args s = true := h.w hb 511 rfl rfl
set_option maxRecDepth 20000 in
theorem k_507 (h : xC l s0 a0 dC dI cA) (hb : xb s0 s) : (Cond.methodLink "java/lang/ArithmeticException" 7 ⟨"java/lang/RuntimeException", "<init>", "(Ljava/lang/String;)V"⟩).before args s = true := h.w hb 512 rfl rfl
set_option maxRecDepth 20000 in
theorem k_510 (h : xC l s0 a0 dC dI cA) (hb : xb s0 s) : (Cond.methodLink RL 133 yL_divideLong).before args s = true := h.w hb 515 rfl rfl
set_option maxRecDepth 20000 in
theorem k_511 (h : xC l s0 a0 dC dI cA) (hb : xb s0 s) : (Cond.static yL_divideLong).before args s = true := h.w hb 516 rfl rfl
set_option maxRecDepth 20000 in
theorem k_512 (h : xC l s0 a0 dC dI cA) (hb : xb s0 s) : (Cond.codeWith yL_divideLong cL_divideLong 8 (some .int) [(0, 12, 15, 65)]).before args s = true := h.w hb 517 rfl rfl
set_option maxRecDepth 20000 in
theorem k_513 (h : xC l s0 a0 dC dI cA) (hb : xb s0 s) : (Cond.methodLink RL 67 yX5_divideLong).before args s = true := h.w hb 518 rfl rfl
set_option maxRecDepth 20000 in
theorem k_514 (h : xC l s0 a0 dC dI cA) (hb : xb s0 s) : (Cond.instanceMethod yX5_divideLong).before args s = true := h.w hb 519 rfl rfl
set_option maxRecDepth 20000 in
theorem k_515 (h : xC l s0 a0 dC dI cA) (hb : xb s0 s) : (Cond.selects RX5 yX5_divideLong yX5_divideLong).before args s = true := h.w hb 520 rfl rfl
set_option maxRecDepth 20000 in
theorem k_516 (h : xC l s0 a0 dC dI cA) (hb : xb s0 s) : (Cond.code yX5_divideLong cX5_divideLong 6 (some .long)).before args s = true := h.w hb 521 rfl rfl
set_option maxRecDepth 20000 in
theorem k_517 (h : xC l s0 a0 dC dI cA) (hb : xb s0 s) : (Cond.methodLink RL 137 yL_raise).before args s = true := h.w hb 522 rfl rfl
set_option maxRecDepth 20000 in
theorem k_518 (h : xC l s0 a0 dC dI cA) (hb : xb s0 s) : (Cond.static yL_raise).before args s = true := h.w hb 523 rfl rfl
set_option maxRecDepth 20000 in
theorem k_519 (h : xC l s0 a0 dC dI cA) (hb : xb s0 s) : (Cond.codeWith yL_raise cL_raise 4 (some .int) [(0, 9, 12, 13), (0, 9, 15, 65)]).before args s = true := h.w hb 524 rfl rfl
set_option maxRecDepth 20000 in
theorem k_520 (h : xC l s0 a0 dC dI cA) (hb : xb s0 s) : (Cond.methodLink RL 71 yX5_raise).before args s = true := h.w hb 525 rfl rfl
set_option maxRecDepth 20000 in
theorem k_521 (h : xC l s0 a0 dC dI cA) (hb : xb s0 s) : (Cond.instanceMethod yX5_raise).before args s = true := h.w hb 526 rfl rfl
set_option maxRecDepth 20000 in
theorem k_522 (h : xC l s0 a0 dC dI cA) (hb : xb s0 s) : (Cond.selects RX5 yX5_raise yX5_raise).before args s = true := h.w hb 527 rfl rfl
set_option maxRecDepth 20000 in
theorem k_523 (h : xC l s0 a0 dC dI cA) (hb : xb s0 s) : (Cond.code yX5_raise cX5_raise 2 (some .int)).before args s = true := h.w hb 528 rfl rfl
set_option maxRecDepth 20000 in
theorem k_524 (h : xC l s0 a0 dC dI cA) (hb : xb s0 s) : (Cond.stringRef RX5 133 "raised").before args s = true := h.str hb 529 rfl
set_option maxRecDepth 20000 in
theorem k_525 (h : xC l s0 a0 dC dI cA) (hb : xb s0 s) : (Cond.classLink RL 76 RX6).before args s = true := h.w hb 530 rfl rfl
set_option maxRecDepth 20000 in
theorem k_526 (h : xC l s0 a0 dC dI cA) (hb : xb s0 s) : (Cond.instantiable RX6 13).before args s = true := h.w hb 531 rfl rfl
set_option maxRecDepth 20000 in
theorem k_527 (h : xC l s0 a0 dC dI cA) (hb : xb s0 s) : (Cond.methodLink RL 78 yX6_init).before args s = true := h.w hb 532 rfl rfl
set_option maxRecDepth 20000 in
theorem k_528 (h : xC l s0 a0 dC dI cA) (hb : xb s0 s) : (Cond.instanceMethod yX6_init).before args s = true := h.w hb 533 rfl rfl
set_option maxRecDepth 20000 in
theorem k_529 (h : xC l s0 a0 dC dI cA) (hb : xb s0 s) : (Cond.code yX6_init cX6_init 2 none).before args s = true := h.w hb 534 rfl rfl
set_option maxRecDepth 20000 in
theorem k_530 (h : xC l s0 a0 dC dI cA) (hb : xb s0 s) : (Cond.methodLink RX6 1 ⟨"java/lang/Object", "<init>", "()V"⟩).before args s = true := h.w hb 535 rfl rfl
set_option maxRecDepth 20000 in
theorem k_531 (h : xC l s0 a0 dC dI cA) (hb : xb s0 s) : (Cond.fieldLink RX6 23 "FaultBenchModel" "thrown" "I").before args s = true := h.w hb 536 rfl rfl
set_option maxRecDepth 20000 in
theorem k_532 (h : xC l s0 a0 dC dI cA) (hb : xb s0 s) : (Cond.fieldLink RX6 7 "FaultBenchModel" "rows" "[J").before args s = true := h.w hb 537 rfl rfl
set_option maxRecDepth 20000 in
theorem k_533 (h : xC l s0 a0 dC dI cA) (hb : xb s0 s) : (Cond.fieldLink RX6 13 "FaultBenchModel" "lengths" "[I").before args s = true := h.w hb 538 rfl rfl
set_option maxRecDepth 20000 in
theorem k_534 (h : xC l s0 a0 dC dI cA) (hb : xb s0 s) : (Cond.fieldLink RX6 44 "FaultBenchModel" "written" "I").before args s = true := h.w hb 539 rfl rfl
set_option maxRecDepth 20000 in
theorem k_535 (h : xC l s0 a0 dC dI cA) (hb : xb s0 s) : (Cond.fieldLink RX6 47 "FaultBenchModel" "gridThere" "Z").before args s = true := h.w hb 540 rfl rfl
set_option maxRecDepth 20000 in
theorem k_536 (h : xC l s0 a0 dC dI cA) (hb : xb s0 s) : (Cond.fieldLink RX6 51 "FaultBenchModel" "gridRows" "I").before args s = true := h.w hb 541 rfl rfl
set_option maxRecDepth 20000 in
theorem k_537 (h : xC l s0 a0 dC dI cA) (hb : xb s0 s) : (Cond.fieldLink RX6 54 "FaultBenchModel" "gridCells" "I").before args s = true := h.w hb 542 rfl rfl
set_option maxRecDepth 20000 in
theorem k_538 (h : xC l s0 a0 dC dI cA) (hb : xb s0 s) : (Cond.fieldLink RX6 57 "FaultBenchModel" "boxesThere" "Z").before args s = true := h.w hb 543 rfl rfl
set_option maxRecDepth 20000 in
theorem k_539 (h : xC l s0 a0 dC dI cA) (hb : xb s0 s) : (Cond.fieldLink RX6 60 "FaultBenchModel" "discsAlone" "Z").before args s = true := h.w hb 544 rfl rfl
set_option maxRecDepth 20000 in
theorem k_540 (h : xC l s0 a0 dC dI cA) (hb : xb s0 s) : (Cond.fieldLink RX6 63 "FaultBenchModel" "places" "I").before args s = true := h.w hb 545 rfl rfl
set_option maxRecDepth 20000 in
theorem k_541 (h : xC l s0 a0 dC dI cA) (hb : xb s0 s) : (Cond.fieldLink RX6 66 "FaultBenchModel" "came" "I").before args s = true := h.w hb 546 rfl rfl
set_option maxRecDepth 20000 in
theorem k_542 (h : xC l s0 a0 dC dI cA) (hb : xb s0 s) : (Cond.fieldLink RX6 17 "FaultBenchModel" "sort" "[I").before args s = true := h.w hb 547 rfl rfl
set_option maxRecDepth 20000 in
theorem k_543 (h : xC l s0 a0 dC dI cA) (hb : xb s0 s) : (Cond.fieldLink RX6 20 "FaultBenchModel" "values" "[I").before args s = true := h.w hb 548 rfl rfl
set_option maxRecDepth 20000 in
theorem k_571 (h : xC l s0 a0 dC dI cA) (hb : xb s0 s) : (Cond.methodLink RL 85 yX6_thrown).before args s = true := h.w hb 576 rfl rfl
set_option maxRecDepth 20000 in
theorem k_572 (h : xC l s0 a0 dC dI cA) (hb : xb s0 s) : (Cond.instanceMethod yX6_thrown).before args s = true := h.w hb 577 rfl rfl
set_option maxRecDepth 20000 in
theorem k_573 (h : xC l s0 a0 dC dI cA) (hb : xb s0 s) : (Cond.selects RX6 yX6_thrown yX6_thrown).before args s = true := h.w hb 578 rfl rfl
set_option maxRecDepth 20000 in
theorem k_574 (h : xC l s0 a0 dC dI cA) (hb : xb s0 s) : (Cond.code yX6_thrown cX6_thrown 1 (some .int)).before args s = true := h.w hb 579 rfl rfl
set_option maxRecDepth 20000 in
theorem k_575 (h : xC l s0 a0 dC dI cA) (hb : xb s0 s) : (Cond.methodLink RL 84 yX6_read).before args s = true := h.w hb 580 rfl rfl
set_option maxRecDepth 20000 in
theorem k_576 (h : xC l s0 a0 dC dI cA) (hb : xb s0 s) : (Cond.instanceMethod yX6_read).before args s = true := h.w hb 581 rfl rfl
set_option maxRecDepth 20000 in
theorem k_577 (h : xC l s0 a0 dC dI cA) (hb : xb s0 s) : (Cond.selects RX6 yX6_read yX6_read).before args s = true := h.w hb 582 rfl rfl
set_option maxRecDepth 20000 in
theorem k_578 (h : xC l s0 a0 dC dI cA) (hb : xb s0 s) : (Cond.code yX6_read cX6_read 5 (some .long)).before args s = true := h.w hb 583 rfl rfl
set_option maxRecDepth 20000 in
theorem k_579 (h : xC l s0 a0 dC dI cA) (hb : xb s0 s) : (Cond.methodLink RX6 36 yX6_fails).before args s = true := h.w hb 584 rfl rfl
set_option maxRecDepth 20000 in
theorem k_581 (h : xC l s0 a0 dC dI cA) (hb : xb s0 s) : (Cond.instanceMethod yX6_fails).before args s = true := h.w hb 586 rfl rfl
set_option maxRecDepth 20000 in
theorem k_582 (h : xC l s0 a0 dC dI cA) (hb : xb s0 s) : (Cond.code yX6_fails cX6_fails 2 (some .int)).before args s = true := h.w hb 587 rfl rfl
set_option maxRecDepth 20000 in
theorem k_583 (h : xC l s0 a0 dC dI cA) (hb : xb s0 s) : (Cond.methodLink RL 92 yX6_write).before args s = true := h.w hb 588 rfl rfl
set_option maxRecDepth 20000 in
theorem k_584 (h : xC l s0 a0 dC dI cA) (hb : xb s0 s) : (Cond.instanceMethod yX6_write).before args s = true := h.w hb 589 rfl rfl
set_option maxRecDepth 20000 in
theorem k_585 (h : xC l s0 a0 dC dI cA) (hb : xb s0 s) : (Cond.selects RX6 yX6_write yX6_write).before args s = true := h.w hb 590 rfl rfl
set_option maxRecDepth 20000 in
theorem k_586 (h : xC l s0 a0 dC dI cA) (hb : xb s0 s) : (Cond.code yX6_write cX6_write 6 (some .int)).before args s = true := h.w hb 591 rfl rfl
set_option maxRecDepth 20000 in
theorem k_587 (h : xC l s0 a0 dC dI cA) (hb : xb s0 s) : (Cond.methodLink RX6 40 yX6_kept).before args s = true := h.w hb 592 rfl rfl
set_option maxRecDepth 20000 in
theorem k_588 (h : xC l s0 a0 dC dI cA) (hb : xb s0 s) : (Cond.static yX6_kept).before args s = true := h.w hb 593 rfl rfl
set_option maxRecDepth 20000 in
theorem k_589 (h : xC l s0 a0 dC dI cA) (hb : xb s0 s) : (Cond.code yX6_kept cX6_kept 3 (some .long)).before args s = true := h.w hb 594 rfl rfl
set_option maxRecDepth 20000 in
theorem k_590 (h : xC l s0 a0 dC dI cA) (hb : xb s0 s) : (Cond.constant RX6 29 (65535 : Int32)).before args s = true := h.w hb 595 rfl rfl
set_option maxRecDepth 20000 in
theorem k_591 (h : xC l s0 a0 dC dI cA) (hb : xb s0 s) : (Cond.constant RX6 30 (32768 : Int32)).before args s = true := h.w hb 596 rfl rfl
set_option maxRecDepth 20000 in
theorem k_592 (h : xC l s0 a0 dC dI cA) (hb : xb s0 s) : (Cond.constant RX6 31 (65536 : Int32)).before args s = true := h.w hb 597 rfl rfl
set_option maxRecDepth 20000 in
theorem k_593 (h : xC l s0 a0 dC dI cA) (hb : xb s0 s) : (Cond.methodLink RX6 32 yX6_nearest).before args s = true := h.w hb 598 rfl rfl
set_option maxRecDepth 20000 in
theorem k_594 (h : xC l s0 a0 dC dI cA) (hb : xb s0 s) : (Cond.static yX6_nearest).before args s = true := h.w hb 599 rfl rfl
set_option maxRecDepth 20000 in
theorem k_595 (h : xC l s0 a0 dC dI cA) (hb : xb s0 s) : (Cond.code yX6_nearest cX6_nearest 10 (some .long)).before args s = true := h.w hb 600 rfl rfl
set_option maxRecDepth 20000 in
theorem k_596 (h : xC l s0 a0 dC dI cA) (hb : xb s0 s) : (Cond.constantLong RX6 27 (16777216 : Int64)).before args s = true := h.w hb 601 rfl rfl
set_option maxRecDepth 20000 in
theorem k_597 (h : xC l s0 a0 dC dI cA) (hb : xb s0 s) : (Cond.methodLink RL 96 yX6_length).before args s = true := h.w hb 602 rfl rfl
set_option maxRecDepth 20000 in
theorem k_598 (h : xC l s0 a0 dC dI cA) (hb : xb s0 s) : (Cond.instanceMethod yX6_length).before args s = true := h.w hb 603 rfl rfl
set_option maxRecDepth 20000 in
theorem k_599 (h : xC l s0 a0 dC dI cA) (hb : xb s0 s) : (Cond.selects RX6 yX6_length yX6_length).before args s = true := h.w hb 604 rfl rfl
set_option maxRecDepth 20000 in
theorem k_600 (h : xC l s0 a0 dC dI cA) (hb : xb s0 s) : (Cond.code yX6_length cX6_length 3 (some .int)).before args s = true := h.w hb 605 rfl rfl
set_option maxRecDepth 20000 in
theorem k_601 (h : xC l s0 a0 dC dI cA) (hb : xb s0 s) : (Cond.methodLink RL 100 yX6_make).before args s = true := h.w hb 606 rfl rfl
set_option maxRecDepth 20000 in
theorem k_602 (h : xC l s0 a0 dC dI cA) (hb : xb s0 s) : (Cond.instanceMethod yX6_make).before args s = true := h.w hb 607 rfl rfl
set_option maxRecDepth 20000 in
theorem k_603 (h : xC l s0 a0 dC dI cA) (hb : xb s0 s) : (Cond.selects RX6 yX6_make yX6_make).before args s = true := h.w hb 608 rfl rfl
set_option maxRecDepth 20000 in
theorem k_604 (h : xC l s0 a0 dC dI cA) (hb : xb s0 s) : (Cond.code yX6_make cX6_make 6 (some .int)).before args s = true := h.w hb 609 rfl rfl
set_option maxRecDepth 20000 in
theorem k_605 (h : xC l s0 a0 dC dI cA) (hb : xb s0 s) : (Cond.methodLink RL 103 yX6_grid).before args s = true := h.w hb 610 rfl rfl
set_option maxRecDepth 20000 in
theorem k_606 (h : xC l s0 a0 dC dI cA) (hb : xb s0 s) : (Cond.instanceMethod yX6_grid).before args s = true := h.w hb 611 rfl rfl
set_option maxRecDepth 20000 in
theorem k_607 (h : xC l s0 a0 dC dI cA) (hb : xb s0 s) : (Cond.selects RX6 yX6_grid yX6_grid).before args s = true := h.w hb 612 rfl rfl
set_option maxRecDepth 20000 in
theorem k_608 (h : xC l s0 a0 dC dI cA) (hb : xb s0 s) : (Cond.code yX6_grid cX6_grid 5 (some .int)).before args s = true := h.w hb 613 rfl rfl
set_option maxRecDepth 20000 in
theorem k_609 (h : xC l s0 a0 dC dI cA) (hb : xb s0 s) : (Cond.methodLink RL 106 yX6_cell).before args s = true := h.w hb 614 rfl rfl
set_option maxRecDepth 20000 in
theorem k_610 (h : xC l s0 a0 dC dI cA) (hb : xb s0 s) : (Cond.instanceMethod yX6_cell).before args s = true := h.w hb 615 rfl rfl
set_option maxRecDepth 20000 in
theorem k_611 (h : xC l s0 a0 dC dI cA) (hb : xb s0 s) : (Cond.selects RX6 yX6_cell yX6_cell).before args s = true := h.w hb 616 rfl rfl
set_option maxRecDepth 20000 in
theorem k_612 (h : xC l s0 a0 dC dI cA) (hb : xb s0 s) : (Cond.code yX6_cell cX6_cell 3 (some .int)).before args s = true := h.w hb 617 rfl rfl
set_option maxRecDepth 20000 in
theorem k_613 (h : xC l s0 a0 dC dI cA) (hb : xb s0 s) : (Cond.methodLink RL 109 yX6_boxes).before args s = true := h.w hb 618 rfl rfl
set_option maxRecDepth 20000 in
theorem k_614 (h : xC l s0 a0 dC dI cA) (hb : xb s0 s) : (Cond.instanceMethod yX6_boxes).before args s = true := h.w hb 619 rfl rfl
set_option maxRecDepth 20000 in
theorem k_615 (h : xC l s0 a0 dC dI cA) (hb : xb s0 s) : (Cond.selects RX6 yX6_boxes yX6_boxes).before args s = true := h.w hb 620 rfl rfl
set_option maxRecDepth 20000 in
theorem k_616 (h : xC l s0 a0 dC dI cA) (hb : xb s0 s) : (Cond.code yX6_boxes cX6_boxes 5 (some .int)).before args s = true := h.w hb 621 rfl rfl
set_option maxRecDepth 20000 in
theorem k_617 (h : xC l s0 a0 dC dI cA) (hb : xb s0 s) : (Cond.methodLink RL 113 yX6_put).before args s = true := h.w hb 622 rfl rfl
set_option maxRecDepth 20000 in
theorem k_618 (h : xC l s0 a0 dC dI cA) (hb : xb s0 s) : (Cond.instanceMethod yX6_put).before args s = true := h.w hb 623 rfl rfl
set_option maxRecDepth 20000 in
theorem k_619 (h : xC l s0 a0 dC dI cA) (hb : xb s0 s) : (Cond.selects RX6 yX6_put yX6_put).before args s = true := h.w hb 624 rfl rfl
set_option maxRecDepth 20000 in
theorem k_620 (h : xC l s0 a0 dC dI cA) (hb : xb s0 s) : (Cond.code yX6_put cX6_put 6 (some .int)).before args s = true := h.w hb 625 rfl rfl
set_option maxRecDepth 20000 in
theorem k_621 (h : xC l s0 a0 dC dI cA) (hb : xb s0 s) : (Cond.methodLink RL 117 yX6_value).before args s = true := h.w hb 626 rfl rfl
set_option maxRecDepth 20000 in
theorem k_622 (h : xC l s0 a0 dC dI cA) (hb : xb s0 s) : (Cond.instanceMethod yX6_value).before args s = true := h.w hb 627 rfl rfl
set_option maxRecDepth 20000 in
theorem k_623 (h : xC l s0 a0 dC dI cA) (hb : xb s0 s) : (Cond.selects RX6 yX6_value yX6_value).before args s = true := h.w hb 628 rfl rfl
set_option maxRecDepth 20000 in
theorem k_624 (h : xC l s0 a0 dC dI cA) (hb : xb s0 s) : (Cond.code yX6_value cX6_value 2 (some .int)).before args s = true := h.w hb 629 rfl rfl
set_option maxRecDepth 20000 in
theorem k_625 (h : xC l s0 a0 dC dI cA) (hb : xb s0 s) : (Cond.methodLink RX6 69 yX6_isThere).before args s = true := h.w hb 630 rfl rfl
set_option maxRecDepth 20000 in
theorem k_627 (h : xC l s0 a0 dC dI cA) (hb : xb s0 s) : (Cond.instanceMethod yX6_isThere).before args s = true := h.w hb 632 rfl rfl
set_option maxRecDepth 20000 in
theorem k_628 (h : xC l s0 a0 dC dI cA) (hb : xb s0 s) : (Cond.code yX6_isThere cX6_isThere 2 (some .boolean)).before args s = true := h.w hb 633 rfl rfl
set_option maxRecDepth 20000 in
theorem k_629 (h : xC l s0 a0 dC dI cA) (hb : xb s0 s) : (Cond.methodLink RL 120 yX6_change).before args s = true := h.w hb 634 rfl rfl
set_option maxRecDepth 20000 in
theorem k_630 (h : xC l s0 a0 dC dI cA) (hb : xb s0 s) : (Cond.instanceMethod yX6_change).before args s = true := h.w hb 635 rfl rfl
set_option maxRecDepth 20000 in
theorem k_631 (h : xC l s0 a0 dC dI cA) (hb : xb s0 s) : (Cond.selects RX6 yX6_change yX6_change).before args s = true := h.w hb 636 rfl rfl
set_option maxRecDepth 20000 in
theorem k_632 (h : xC l s0 a0 dC dI cA) (hb : xb s0 s) : (Cond.code yX6_change cX6_change 4 (some .int)).before args s = true := h.w hb 637 rfl rfl
set_option maxRecDepth 20000 in
theorem k_633 (h : xC l s0 a0 dC dI cA) (hb : xb s0 s) : (Cond.methodLink RL 123 yX6_weigh).before args s = true := h.w hb 638 rfl rfl
set_option maxRecDepth 20000 in
theorem k_634 (h : xC l s0 a0 dC dI cA) (hb : xb s0 s) : (Cond.instanceMethod yX6_weigh).before args s = true := h.w hb 639 rfl rfl
set_option maxRecDepth 20000 in
theorem k_635 (h : xC l s0 a0 dC dI cA) (hb : xb s0 s) : (Cond.selects RX6 yX6_weigh yX6_weigh).before args s = true := h.w hb 640 rfl rfl
set_option maxRecDepth 20000 in
theorem k_636 (h : xC l s0 a0 dC dI cA) (hb : xb s0 s) : (Cond.code yX6_weigh cX6_weigh 3 (some .int)).before args s = true := h.w hb 641 rfl rfl
set_option maxRecDepth 20000 in
theorem k_637 (h : xC l s0 a0 dC dI cA) (hb : xb s0 s) : (Cond.methodLink RL 126 yX6_roll).before args s = true := h.w hb 642 rfl rfl
set_option maxRecDepth 20000 in
theorem k_638 (h : xC l s0 a0 dC dI cA) (hb : xb s0 s) : (Cond.instanceMethod yX6_roll).before args s = true := h.w hb 643 rfl rfl
set_option maxRecDepth 20000 in
theorem k_639 (h : xC l s0 a0 dC dI cA) (hb : xb s0 s) : (Cond.selects RX6 yX6_roll yX6_roll).before args s = true := h.w hb 644 rfl rfl
set_option maxRecDepth 20000 in
theorem k_640 (h : xC l s0 a0 dC dI cA) (hb : xb s0 s) : (Cond.code yX6_roll cX6_roll 3 (some .int)).before args s = true := h.w hb 645 rfl rfl
set_option maxRecDepth 20000 in
theorem k_641 (h : xC l s0 a0 dC dI cA) (hb : xb s0 s) : (Cond.methodLink RL 130 yX6_divide).before args s = true := h.w hb 646 rfl rfl
set_option maxRecDepth 20000 in
theorem k_642 (h : xC l s0 a0 dC dI cA) (hb : xb s0 s) : (Cond.instanceMethod yX6_divide).before args s = true := h.w hb 647 rfl rfl
set_option maxRecDepth 20000 in
theorem k_643 (h : xC l s0 a0 dC dI cA) (hb : xb s0 s) : (Cond.selects RX6 yX6_divide yX6_divide).before args s = true := h.w hb 648 rfl rfl
set_option maxRecDepth 20000 in
theorem k_644 (h : xC l s0 a0 dC dI cA) (hb : xb s0 s) : (Cond.code yX6_divide cX6_divide 4 (some .int)).before args s = true := h.w hb 649 rfl rfl
set_option maxRecDepth 20000 in
theorem k_645 (h : xC l s0 a0 dC dI cA) (hb : xb s0 s) : (Cond.methodLink RL 136 yX6_divideLong).before args s = true := h.w hb 650 rfl rfl
set_option maxRecDepth 20000 in
theorem k_646 (h : xC l s0 a0 dC dI cA) (hb : xb s0 s) : (Cond.instanceMethod yX6_divideLong).before args s = true := h.w hb 651 rfl rfl
set_option maxRecDepth 20000 in
theorem k_647 (h : xC l s0 a0 dC dI cA) (hb : xb s0 s) : (Cond.selects RX6 yX6_divideLong yX6_divideLong).before args s = true := h.w hb 652 rfl rfl
set_option maxRecDepth 20000 in
theorem k_648 (h : xC l s0 a0 dC dI cA) (hb : xb s0 s) : (Cond.code yX6_divideLong cX6_divideLong 6 (some .long)).before args s = true := h.w hb 653 rfl rfl
set_option maxRecDepth 20000 in
theorem k_649 (h : xC l s0 a0 dC dI cA) (hb : xb s0 s) : (Cond.methodLink RL 140 yX6_raise).before args s = true := h.w hb 654 rfl rfl
set_option maxRecDepth 20000 in
theorem k_650 (h : xC l s0 a0 dC dI cA) (hb : xb s0 s) : (Cond.instanceMethod yX6_raise).before args s = true := h.w hb 655 rfl rfl
set_option maxRecDepth 20000 in
theorem k_651 (h : xC l s0 a0 dC dI cA) (hb : xb s0 s) : (Cond.selects RX6 yX6_raise yX6_raise).before args s = true := h.w hb 656 rfl rfl
set_option maxRecDepth 20000 in
theorem k_652 (h : xC l s0 a0 dC dI cA) (hb : xb s0 s) : (Cond.code yX6_raise cX6_raise 2 (some .int)).before args s = true := h.w hb 657 rfl rfl
set_option maxRecDepth 20000 in
theorem k_653 (h : xC l s0 a0 dC dI cA) (hb : xb s0 s) : (Cond.constantLong RL 131 (4294967295 : Int64)).before args s = true := h.w hb 658 rfl rfl
set_option maxRecDepth 20000 in
theorem k_654 (h : xC l s0 a0 dC dI cA) (hb : xb s0 s) : (Cond.sameMethod "java/lang/Throwable" "java/lang/Throwable" "fillInStackTrace" "(I)Ljava/lang/Throwable;").before args s = true := h.w hb 659 rfl rfl
set_option maxRecDepth 20000 in
theorem k_655 (h : xC l s0 a0 dC dI cA) (hb : xb s0 s) : (Cond.castable "FaultBench$Disc" "FaultBench$Disc").before args s = true := h.w hb 660 rfl rfl
set_option maxRecDepth 20000 in
theorem k_656 (h : xC l s0 a0 dC dI cA) (hb : xb s0 s) : (Cond.castable "FaultBench$Disc" "FaultBench$Box").before args s = true := h.w hb 661 rfl rfl
theorem ks_2 (h : xC l s0 a0 dC dI cA) (hb : xb s0 s) : (Cond.selects yX5_boxAt.cls yX5_boxAt yX5_boxAt).before args s = true := h.w hb 2 rfl rfl
theorem ks_3 (h : xC l s0 a0 dC dI cA) (hb : xb s0 s) : (Cond.selects yX6_fails.cls yX6_fails yX6_fails).before args s = true := h.w hb 3 rfl rfl
theorem ks_4 (h : xC l s0 a0 dC dI cA) (hb : xb s0 s) : (Cond.selects yX6_isThere.cls yX6_isThere yX6_isThere).before args s = true := h.w hb 4 rfl rfl
theorem ly_0 (h : xC l s0 a0 dC dI cA) (hb : xb s0 s) : ∀ w ∈ u_ws RX0 TX0 1, w.before args s = true := h.all hb _ (by decide +kernel)
theorem ly_1 (h : xC l s0 a0 dC dI cA) (hb : xb s0 s) : ∀ w ∈ u_ws RX1 TX1 4, w.before args s = true := h.all hb _ (by decide +kernel)
theorem ly_2 (h : xC l s0 a0 dC dI cA) (hb : xb s0 s) : ∀ w ∈ u_ws RX2 TX2 1, w.before args s = true := h.all hb _ (by decide +kernel)
theorem ly_3 (h : xC l s0 a0 dC dI cA) (hb : xb s0 s) : ∀ w ∈ u_ws RX3 TX3 4, w.before args s = true := h.all hb _ (by decide +kernel)
theorem ly_4 (h : xC l s0 a0 dC dI cA) (hb : xb s0 s) : ∀ w ∈ u_ws RX4 TX4 9, w.before args s = true := h.all hb _ (by decide +kernel)
theorem ly_5 (h : xC l s0 a0 dC dI cA) (hb : xb s0 s) : ∀ w ∈ u_ws RX5 TX5 5, w.before args s = true := h.all hb _ (by decide +kernel)
theorem ly_6 (h : xC l s0 a0 dC dI cA) (hb : xb s0 s) : ∀ w ∈ u_ws RX6 TX6 13, w.before args s = true := h.all hb _ (by decide +kernel)
end XWA
end
section
/-! The three kinds of contract of this proof, and the rows of a call under each. xP: what holds ahead (the cells ws, unchanged behind). xR: the answer v, the heap as it was. xPM, xQM: the cells wc may change, wr is read. -/
def xP (s0 : State) (D : va_G) (av : List Value) (ws : va_W) : Array Value → State → Prop := va_Pc av (fun U => xb s0 U ∧ va_P D vwCl ws U.heap)
def xR (v : Option Value) : Array Value → State → Outcome → State → Prop := fun _ st o t => o = .returned v ∧ t.heap = st.heap
def xPM (s0 : State) (D : va_G) (av : List Value) (wr wc : va_W) (sz : Nat) : Array Value → State → Prop := va_Pc av (fun U => U.heap.size = sz ∧ xb s0 U ∧ va_P D vwCl wr U.heap ∧ va_P D vwCl wc U.heap ∧ va_D (fun q => s0.heap.size ≤ q) (wr ++ wc))
def xQM (D : va_G) (A : Nat → Prop) (Φ : Option Value → va_W → Prop) : Array Value → State → Outcome → State → Prop := fun _ st o t => ∃ (r : Option Value) (w1 : va_W), o = .returned r ∧ Φ r w1 ∧ va_P D vwCl w1 t.heap ∧ va_D A w1 ∧ va_F A st t
theorem xP.blind {s0 : State} {D : va_G} {av : List Value} {ws : va_W} : FrameBlind (xP s0 D av ws) := fun a U g mk q => ⟨q.1, q.2.1, q.2.2⟩
theorem xPM.blind {s0 : State} {D : va_G} {av : List Value} {wr wc : va_W} {sz : Nat} : FrameBlind (xPM s0 D av wr wc sz) := fun a U g mk q => ⟨q.1, q.2⟩
section XCA
variable {p : Program} {l : Launch} {e : Env} {R : Room} {s : State} {m : MethodId} {args : Array Value} {below : List Frame} {meth : Method} {c : Code} {H : Heap} {locs : List Loc} {cells slots : Nat} {Q : State → Prop}
variable {pc : Nat} {ls : Array Slot} {rest st0 : List Value} {a : Array Value} {A0 : Nat → Prop} {H0 : Heap} {mc ms : Nat} {D : va_G} {s0 : State}
theorem xr_of {v : Option Value} (hr : va_Run p l e R s m args below meth c H locs cells slots 0 0 (F0 m pc ls st0) rest (xR v a) (fun _ => False)) (kk : W p l e R s m args below meth c H locs cells slots Q (F0 m (pc + 3) ls (v.toList ++ rest))) :
    W p l e R s m args below meth c H locs cells slots Q (F0 m pc ls st0) := by
  intro T hT X
  obtain ⟨v', st₀, t, T', L, h0, X', hL, e1, e2, ⟨hv, hh⟩, st⟩ := hr T hT X
  cases hv
  obtain ⟨t2, a1, b1⟩ := kk T' (by rw [e1, hh, h0]) (Stand.forget X' (fun q h => (hL q h).elim))
  exact ⟨t2, st t2 a1, b1⟩
theorem xm_S {wc : va_W} {st₀ t T' : State} {L : List Loc} (h0 : st₀.heap = H) (e1 : T'.heap = t.heap) (hS : va_S A0 H0 H locs) (hf : ∀ q, va_A wc H.size q → A0 q) (hL : ∀ q ∈ L, va_A wc H.size q.base) (hF : va_F (va_A wc H.size) st₀ t) :
    H.size ≤ T'.heap.size ∧ (∀ q : Nat, q < H.size → ¬ va_A wc H.size q → T'.heap[q]? = H[q]?) ∧ va_S A0 H0 T'.heap (locs ++ L) := by
  obtain ⟨hz, hk⟩ := hF
  rw [h0] at hz hk
  refine ⟨by rw [e1]; exact hz, fun q h1 h2 => by rw [e1]; exact hk q h1 h2, Nat.le_trans hS.1 (by rw [e1]; exact hz), fun q h1 h2 => ?_, fun q hq => ?_⟩
  · rw [e1, hk q (Nat.lt_of_lt_of_le h1 hS.1) (fun z => h2 (hf q z))]
    exact hS.2.1 q h1 h2
  · rcases List.mem_append.mp hq with h | h
    · exact hS.2.2 q h
    · exact hf _ (hL q h)
/-- behind a call that changes the cells wc (places isC of the caller's ws); isR: the others -/
theorem xm_of {ws wc wo : va_W} {Φ : Option Value → va_W → Prop} (hr : va_Run p l e R s m args below meth c H locs cells slots mc ms (F0 m pc ls st0) rest (xQM D (va_A wc H.size) Φ a) (va_A wc H.size))
    (hP : va_P D vwCl ws H) (hD : va_D A0 ws) (hS : va_S A0 H0 H locs) (hA : ∀ q, H0.size ≤ q → A0 q) (isC isR : List Nat) (hC : isC.map (fun i => ws[i]?) = wc.map some) (hR : isR.map (fun i => ws[i]?) = wo.map some) (hn : va_nd isR = true) (hdis : ∀ i ∈ isR, i ∉ isC)
    (kk : ∀ (r : Option Value) (w1 : va_W) (H1 : Heap) (locs1 : List Loc), Φ r w1 → va_P D vwCl (wo ++ w1) H1 → va_D A0 (wo ++ w1) → va_S A0 H0 H1 locs1 → W p l e R s m args below meth c H1 locs1 (cells + mc) (slots + ms) Q (F0 m (pc + 3) ls (r.toList ++ rest))) :
    W p l e R s m args below meth c H locs cells slots Q (F0 m pc ls st0) := by
  intro T hT X
  obtain ⟨v', st₀, t, T', L, h0, X', hL, e1, e2, ⟨r, w1, hv, hΦ, hP1, hD1, hF⟩, st⟩ := hr T hT X
  cases hv
  have hf := va_free hD hS hA isC hC
  obtain ⟨k1, k2, k3⟩ := xm_S h0 e1 hS hf hL hF
  obtain ⟨j1, j2⟩ := va_join hP hD isC isR hC hR hn hdis k2 hf (by rw [e1]; exact hP1) hD1
  obtain ⟨t2, a1, b1⟩ := kk v' w1 T'.heap (locs ++ L) hΦ j1 j2 k3 T' rfl X'
  exact ⟨t2, st t2 a1, b1⟩
/-- the same where the caller's cells end in a list pl that the callee doesn't touch -/
theorem xm_ofQ {X9 wc wo pl : va_W} {Φ : Option Value → va_W → Prop} (hr : va_Run p l e R s m args below meth c H locs cells slots mc ms (F0 m pc ls st0) rest (xQM D (va_A wc H.size) Φ a) (va_A wc H.size))
    (hP : va_P D vwCl (X9 ++ pl) H) (hD : va_D A0 (X9 ++ pl)) (hS : va_S A0 H0 H locs) (hA : ∀ q, H0.size ≤ q → A0 q) (isC isR : List Nat) (hC : isC.map (fun i => X9[i]?) = wc.map some) (hR : isR.map (fun i => X9[i]?) = wo.map some) (hn : va_nd isR = true) (hdis : ∀ i ∈ isR, i ∉ isC)
    (kk : ∀ (r : Option Value) (w1 : va_W) (H1 : Heap) (locs1 : List Loc), Φ r w1 → va_P D vwCl ((wo ++ w1) ++ pl) H1 → va_D A0 ((wo ++ w1) ++ pl) → va_S A0 H0 H1 locs1 → W p l e R s m args below meth c H1 locs1 (cells + mc) (slots + ms) Q (F0 m (pc + 3) ls (r.toList ++ rest))) :
    W p l e R s m args below meth c H locs cells slots Q (F0 m pc ls st0) := by
  intro T hT X
  obtain ⟨v', st₀, t, T', L, h0, X', hL, e1, e2, ⟨r, w1, hv, hΦ, hP1, hD1, hF⟩, st⟩ := hr T hT X
  cases hv
  have hf : ∀ q, va_A wc H.size q → A0 q := by
    intro q hq
    rcases hq with ⟨k, ee, hk⟩ | hq
    · obtain ⟨i, -, hi⟩ := va_in_of isC hC hk
      exact hD.2 i (q, ee) (by rw [List.getElem?_append_left (List.getElem?_eq_some_iff.mp hi).1]; exact hi)
    · exact hA q (Nat.le_trans hS.1 hq)
  obtain ⟨k1, k2, k3⟩ := xm_S h0 e1 hS hf hL hF
  obtain ⟨j1, j2⟩ := va_joinQ hP hD isC isR hC hR hn hdis k2 hf (by rw [e1]; exact hP1) hD1
  obtain ⟨t2, a1, b1⟩ := kk v' w1 T'.heap (locs ++ L) hΦ j1 j2 k3 T' rfl X'
  exact ⟨t2, st t2 a1, b1⟩
/-- where the walk stands: the heap H is s's but for the footprint A0, which lies above s0 -/
theorem xh_U (hb0 : xb s0 s) (hS : va_S A0 s.heap H locs) (hz : ∀ q, A0 q → s0.heap.size ≤ q) {U : State} (hU : U.heap = H) (hW : s.WarmedH U.vm) : xb s0 U := by
  refine ⟨State.WarmedH.trans hb0.1 hW, by rw [hU]; exact Nat.le_trans hb0.2.1 hS.1, fun q hq => ?_⟩
  rw [hU, hS.2.1 q (Nat.lt_of_lt_of_le hq hb0.2.1) (fun z => absurd (hz q z) (Nat.not_le.mpr hq))]
  exact hb0.2.2 q hq
theorem xpS {As : List Value} {wc : va_W} (hb0 : xb s0 s) (hS : va_S A0 s.heap H locs) (hz : ∀ q, A0 q → s0.heap.size ≤ q) (hPc : va_P D vwCl wc H) : PreS s H (xP s0 D As wc) As := ⟨xP.blind, fun U hU hW => ⟨rfl, xh_U hb0 hS hz hU hW, by rw [hU]; exact hPc⟩⟩
theorem xpV {As : List Value} {wc : va_W} {C : String} {b : Addr} (hb0 : xb s0 s) (hS : va_S A0 s.heap H locs) (hz : ∀ q, A0 q → s0.heap.size ≤ q) (hPc : va_P D vwCl wc H) (hv : ∃ cellB : Cell, H[b]? = some cellB ∧ cellB.vm.isStatics = false ∧ s.vm.findClass C = some cellB.cls) :
    PreV s H C b (xP s0 D (.ref b :: As) wc) As := ⟨xP.blind, hv, fun U hU hW => ⟨rfl, xh_U hb0 hS hz hU hW, by rw [hU]; exact hPc⟩⟩
theorem xpMS {As : List Value} {wr wc : va_W} (hb0 : xb s0 s) (hS : va_S A0 s.heap H locs) (hz : ∀ q, A0 q → s0.heap.size ≤ q) (hPr : va_P D vwCl wr H) (hPc : va_P D vwCl wc H) (hDc : va_D (fun q => s0.heap.size ≤ q) (wr ++ wc)) : PreS s H (xPM s0 D As wr wc H.size) As :=
  ⟨xPM.blind, fun U hU hW => ⟨rfl, by rw [hU], xh_U hb0 hS hz hU hW, by rw [hU]; exact hPr, by rw [hU]; exact hPc, hDc⟩⟩
theorem xpMV {As : List Value} {wr wc : va_W} {C : String} {b : Addr} (hb0 : xb s0 s) (hS : va_S A0 s.heap H locs) (hz : ∀ q, A0 q → s0.heap.size ≤ q) (hPr : va_P D vwCl wr H) (hPc : va_P D vwCl wc H) (hDc : va_D (fun q => s0.heap.size ≤ q) (wr ++ wc)) (hv : ∃ cellB : Cell, H[b]? = some cellB ∧ cellB.vm.isStatics = false ∧ s.vm.findClass C = some cellB.cls) :
    PreV s H C b (xPM s0 D (.ref b :: As) wr wc H.size) As := ⟨xPM.blind, hv, fun U hU hW => ⟨rfl, by rw [hU], xh_U hb0 hS hz hU hW, by rw [hU]; exact hPr, by rw [hU]; exact hPc, hDc⟩⟩
/-- a call's words -/
theorem xB {own : String} {index n maxL : Nat} {y : MethodName} {bytes : ByteArray} {ret : Option FieldType} {rm : Room} (hcode : (Cond.code y bytes maxL ret).before args s = true) (hini : (Cond.initialized y.cls).before args s = true) (hl : (Cond.methodLink own index y).before args s = true)
    (hd : y.cls ≠ "java/lang/invoke/MethodHandle" ∧ y.cls ≠ "java/lang/invoke/VarHandle") (hn : (parseMethodDescriptor y.desc).map (fun d => d.parameters.length) = some n) (hrc : rm.cells = mc) (hrs : rm.slots = ms) (hR : rm.frames + 1 ≤ R.frames) (hR2 : 8 + (maxL + 11) + rm.locals ≤ R.locals) :
    CallB R s args own index y bytes maxL ret [.code y bytes maxL ret] rm mc ms n := by
  refine ⟨hrc, hrs, hR, hR2, fun w hw a' U hW => ?_, List.mem_cons_self, hcode, hini, hd, fun sig h => ?_, hl⟩
  · rw [List.mem_singleton] at hw
    rw [hw]
    exact xg_at hW rfl hcode
  · rw [h] at hn
    exact (Option.some.inj hn).symm
theorem xTs : ∀ w ∈ ([] : List Cond), w.before args s = true := fun _ h => nomatch h
/-- a heap that has only grown keeps every cell of a world -/
theorem xgrow {ws : va_W} {H1 : Heap} (hP : va_P D vwCl ws H) (hk : ∀ z : Nat, z < H.size → H1[z]? = H[z]?) : va_P D vwCl ws H1 := hP.kept (fun k q hq => hk q.1 (hP k q hq).lt)
theorem xgrowS {H1 : Heap} (hS : va_S A0 H0 H locs) (hz : H.size ≤ H1.size) (hk : ∀ z : Nat, z < H.size → H1[z]? = H[z]?) : va_S A0 H0 H1 locs := ⟨Nat.le_trans hS.1 hz, fun q h1 h2 => by rw [hk q (Nat.lt_of_lt_of_le h1 hS.1)]; exact hS.2.1 q h1 h2, hS.2.2⟩
end XCA
end
section
/-! How a contract's walk begins. -/
theorem xM_start {s0 s : State} {D : va_G} {wr wc : va_W} (hb0 : xb s0 s) (hPr : va_P D vwCl wr s.heap) (hP : va_P D vwCl wc s.heap) (hD0 : va_D (fun q => s0.heap.size ≤ q) (wr ++ wc)) :
    ∃ A : Nat → Prop, va_A wc s.heap.size = A ∧ va_D A wc ∧ (∀ q, s.heap.size ≤ q → A q) ∧ (∀ q, A q → s0.heap.size ≤ q) ∧ (∀ (H : Heap) (locs : List Loc), va_S A s.heap H locs → va_P D vwCl wr H) ∧ (∀ w1 : va_W, va_D A w1 → va_D (fun q => s0.heap.size ≤ q) w1) ∧ (∀ (k : Nat) (q : Nat × va_E), wr[k]? = some q → ¬ A q.1) := by
  have hR : ∀ (k : Nat) (q : Nat × va_E), wr[k]? = some q → ¬ va_A wc s.heap.size q.1 := by
    intro k q hk hq
    rcases hq with ⟨j, e, hj⟩ | hq
    · have h1 : (wr ++ wc)[k]? = some q := by rw [List.getElem?_append_left (List.getElem?_eq_some_iff.mp hk).1]; exact hk
      have h2 : (wr ++ wc)[wr.length + j]? = some (q.1, e) := by rw [List.getElem?_append_right (Nat.le_add_right _ _), Nat.add_sub_cancel_left]; exact hj
      have h3 := hD0.1 k (wr.length + j) q (q.1, e) h1 h2 rfl
      have h4 := (List.getElem?_eq_some_iff.mp hk).1
      omega
    · exact absurd (hPr k q hk).lt (Nat.not_lt.mpr hq)
  have hz : ∀ q, va_A wc s.heap.size q → s0.heap.size ≤ q := by
    intro q hq
    rcases hq with ⟨j, e, hj⟩ | hq
    · exact hD0.2 (wr.length + j) (q, e) (by rw [List.getElem?_append_right (Nat.le_add_right _ _), Nat.add_sub_cancel_left]; exact hj)
    · exact Nat.le_trans hb0.2.1 hq
  refine ⟨_, rfl, ⟨fun i j p q h1 h2 h3 => ?_, fun k q hk => va_A.in hk⟩, fun q h => Or.inr h, hz, fun H locs hS => hPr.kept (fun k q hk => hS.2.1 q.1 (hPr k q hk).lt (hR k q hk)), fun w1 h => h.weaken (fun _ _ _ g => hz _ g), hR⟩
  have g1 : (wr ++ wc)[wr.length + i]? = some p := by rw [List.getElem?_append_right (Nat.le_add_right _ _), Nat.add_sub_cancel_left]; exact h1
  have g2 : (wr ++ wc)[wr.length + j]? = some q := by rw [List.getElem?_append_right (Nat.le_add_right _ _), Nat.add_sub_cancel_left]; exact h2
  have g3 := hD0.1 _ _ p q g1 g2 h3
  omega
/-- cells read and cells changed, side by side -/
theorem xDD {z0 : Nat} {A : Nat → Prop} {w1 w2 : va_W} (h1 : va_D (fun q => z0 ≤ q) w1) (h2 : va_D A w2) (hz : ∀ q, A q → z0 ≤ q) (hn : ∀ (k : Nat) (q : Nat × va_E), w1[k]? = some q → ¬ A q.1) : va_D (fun q => z0 ≤ q) (w1 ++ w2) :=
  va_D.app h1 (h2.weaken (fun _ _ _ g => hz _ g)) (fun i j p q hi hj he => hn i p hi (by rw [he]; exact h2.2 j q hj))
theorem xDl {A : Nat → Prop} {w1 w2 : va_W} (h : va_D A (w1 ++ w2)) : va_D A w1 := h.by (fun k => k) (fun k q hk => by rw [List.getElem?_append_left (List.getElem?_eq_some_iff.mp hk).1]; exact hk) (fun i j _ _ e => e)
section XLC
variable {p : Program} {l : Launch} {e : Env} {R : Room} {s : State} {m : MethodId} {args : Array Value} {below : List Frame} {meth : Method} {c : Code} {H : Heap} {locs : List Loc} {cells slots : Nat} {Q : State → Prop}
theorem xlcmp {cc : ByteArray} (hexec : p.tables.exec = Jvm.exec) (hb : c.code = cc) {x y : Int64} {pc : Nat} {ls : Array Slot} {rest : List Value} (hdg : decode cc pc = .ok (.lcmp, 1))
    (k : ∀ v : Int32, (v = 0 ↔ x = y) → W p l e R s m args below meth c H locs cells slots Q (F0 m (pc + 1) ls (.int v :: rest))) : W p l e R s m args below meth c H locs cells slots Q (F0 m pc ls (.long y :: .long x :: rest)) := by
  exact W.lcmp hexec hb hdg (k _ (lg_cmp_eq x y))
end XLC
end
section
set_option maxRecDepth 100000 in
theorem xo_145 {l : Launch} {s0 : State} {a0 : Array Value} {dC : Nat → ClassId} {dI : Nat → Nat → Nat} {cA : Nat → ClassId} {s : State} {args : Array Value} (h : xC l s0 a0 dC dI cA) (hb : xb s0 s) : ∀ w ∈ Bundle.ownAtoms RX5 145 "java/lang/ArrayIndexOutOfBoundsException" ["java/lang/IndexOutOfBoundsException", "java/lang/RuntimeException", "java/lang/Exception"], w.before args s = true := h.all hb _ (by decide +kernel)
set_option maxRecDepth 100000 in
theorem xo_150 {l : Launch} {s0 : State} {a0 : Array Value} {dC : Nat → ClassId} {dI : Nat → Nat → Nat} {cA : Nat → ClassId} {s : State} {args : Array Value} (h : xC l s0 a0 dC dI cA) (hb : xb s0 s) : ∀ w ∈ Bundle.ownAtoms RX5 150 "java/lang/NegativeArraySizeException" ["java/lang/RuntimeException", "java/lang/Exception"], w.before args s = true := h.all hb _ (by decide +kernel)
set_option maxRecDepth 100000 in
theorem xo_135 {l : Launch} {s0 : State} {a0 : Array Value} {dC : Nat → ClassId} {dI : Nat → Nat → Nat} {cA : Nat → ClassId} {s : State} {args : Array Value} (h : xC l s0 a0 dC dI cA) (hb : xb s0 s) : ∀ w ∈ Bundle.ownAtoms RX5 135 "java/lang/ArithmeticException" ["java/lang/RuntimeException", "java/lang/Exception"], w.before args s = true := h.all hb _ (by decide +kernel)
set_option maxRecDepth 100000 in
theorem xo_101 {l : Launch} {s0 : State} {a0 : Array Value} {dC : Nat → ClassId} {dI : Nat → Nat → Nat} {cA : Nat → ClassId} {s : State} {args : Array Value} (h : xC l s0 a0 dC dI cA) (hb : xb s0 s) : ∀ w ∈ Bundle.ownAtoms RX5 101 "java/lang/ArrayStoreException" ["java/lang/RuntimeException", "java/lang/Exception"], w.before args s = true := h.all hb _ (by decide +kernel)
set_option maxRecDepth 100000 in
theorem xo_126 {l : Launch} {s0 : State} {a0 : Array Value} {dC : Nat → ClassId} {dI : Nat → Nat → Nat} {cA : Nat → ClassId} {s : State} {args : Array Value} (h : xC l s0 a0 dC dI cA) (hb : xb s0 s) : ∀ w ∈ Bundle.ownAtoms RX5 126 "java/lang/ClassCastException" ["java/lang/RuntimeException", "java/lang/Exception"], w.before args s = true := h.all hb _ (by decide +kernel)
set_option maxHeartbeats 4000000 in
set_option maxRecDepth 100000 in
theorem c_kindOf {l : Launch} {s0 : State} {a0 : Array Value} {dC : Nat → ClassId} {dI : Nat → Nat → Nat} {cA : Nat → ClassId} (h : xC l s0 a0 dC dI cA) (p0 : Int32)  : Met l yX5_kindOf [Cond.code yX5_kindOf cX5_kindOf 1 (some .int)] ({ frames := 0, cells := 0, slots := 0, locals := 0 } : Room) (xP s0 (dC, dI) [.int p0] []) (xR (some (.int (p0 &&& 7)))) 0 0 (fun _ => False) := by
  refine Met.ofW (cc := cX5_kindOf) (maxL := 1) (ret := (some .int)) (by decide) rfl ?_
  intro p e s m args below meth c s₁ B hml hv
  obtain ⟨rfl, hb0, hP⟩ := hv
  have hx := B.exec
  have hb := B.bytes
  have hr := B.returns
  have hown : s.vm.findClass RX5 = some m.cls := findClass_of_methodNamed B.named
  have hlocks := B.notSynchronized
  have hK := h.K hb0
  have hS : va_S (fun _ : Nat => False) s.heap s.heap [] := va_S.rf
  have hz : ∀ q : Nat, (fun _ : Nat => False) q → s0.heap.size ≤ q := fun _ z => z.elim
  have hl := lv_entry ([.int p0]) (n := 1) (Nat.le_of_ble_eq_true rfl)
  rw [lg_entry_eq]
  generalize (lg_sl ([.int p0]) ++ List.replicate (1 - (lg_sl ([.int p0])).length) Slot.unset).toArray = ls at hl ⊢
  have hl : lv_has ls 1 [(0, .int p0)] := hl
  refine lv_iload_n hx hb dX5_kindOf_0 rfl (lv_at hl 0 rfl) ?_
  refine lv_bipush (v := 7) hx hb dX5_kindOf_1 (by decide) ?_
  refine lv_iand hx hb dX5_kindOf_3 ?_
  exact W.iret hx hb hr (fun t ht _ => ⟨rfl, ht⟩) (fun q z => nomatch z) dX5_kindOf_4
set_option maxHeartbeats 4000000 in
set_option maxRecDepth 100000 in
theorem c_needSize {l : Launch} {s0 : State} {a0 : Array Value} {dC : Nat → ClassId} {dI : Nat → Nat → Nat} {cA : Nat → ClassId} (h : xC l s0 a0 dC dI cA) (p0 : Int32) (hc : ¬ p0 < 0) : Met l yX5_needSize [Cond.code yX5_needSize cX5_needSize 1 none] ({ frames := 0, cells := 0, slots := 0, locals := 0 } : Room) (xP s0 (dC, dI) [.int p0] []) (xR none) 0 0 (fun _ => False) := by
  refine Met.ofW (cc := cX5_needSize) (maxL := 1) (ret := none) (by decide) rfl ?_
  intro p e s m args below meth c s₁ B hml hv
  obtain ⟨rfl, hb0, hP⟩ := hv
  have hx := B.exec
  have hb := B.bytes
  have hr := B.returns
  have hown : s.vm.findClass RX5 = some m.cls := findClass_of_methodNamed B.named
  have hlocks := B.notSynchronized
  have hK := h.K hb0
  have hS : va_S (fun _ : Nat => False) s.heap s.heap [] := va_S.rf
  have hz : ∀ q : Nat, (fun _ : Nat => False) q → s0.heap.size ≤ q := fun _ z => z.elim
  have hl := lv_entry ([.int p0]) (n := 1) (Nat.le_of_ble_eq_true rfl)
  rw [lg_entry_eq]
  generalize (lg_sl ([.int p0]) ++ List.replicate (1 - (lg_sl ([.int p0])).length) Slot.unset).toArray = ls at hl ⊢
  have hl : lv_has ls 1 [(0, .int p0)] := hl
  refine lv_iload_n hx hb dX5_needSize_0 rfl (lv_at hl 0 rfl) ?_
  refine lv_if_ge (tgt := 14) hx hb dX5_needSize_1 (by decide) (fun c_1 => ?_) (fun c_1 => ?_)
  · exact W.vret hx hb hr (fun t ht _ => ⟨rfl, ht⟩) (fun q z => nomatch z) dX5_needSize_14
  · exact absurd (Int32.not_lt.mp hc) c_1
set_option maxHeartbeats 4000000 in
set_option maxRecDepth 100000 in
theorem t_needSize {l : Launch} {s0 : State} {a0 : Array Value} {dC : Nat → ClassId} {dI : Nat → Nat → Nat} {cA : Nat → ClassId} (h : xC l s0 a0 dC dI cA) (p0 : Int32) (hc : p0 < 0) : xt_Met l yX5_needSize [Cond.code yX5_needSize cX5_needSize 1 none] ({ frames := 6, cells := 1, slots := 6, locals := 100 } : Room) (xP s0 (dC, dI) [.int p0] []) "java/lang/NegativeArraySizeException" 1 6 := by
  refine xt_ofW (cc := cX5_needSize) (maxL := 1) (ret := none) (by decide) rfl ?_
  intro p e s m args below meth c s₁ B hml hout hv
  obtain ⟨rfl, hb0, hP⟩ := hv
  have hx := B.exec
  have hb := B.bytes
  have hr := B.returns
  have hown : s.vm.findClass RX5 = some m.cls := findClass_of_methodNamed B.named
  have hlocks := B.notSynchronized
  have hK := h.K hb0
  have hS : va_S (fun _ : Nat => False) s.heap s.heap [] := va_S.rf
  have hz : ∀ q : Nat, (fun _ : Nat => False) q → s0.heap.size ≤ q := fun _ z => z.elim
  have hl := lv_entry ([.int p0]) (n := 1) (Nat.le_of_ble_eq_true rfl)
  rw [lg_entry_eq]
  generalize (lg_sl ([.int p0]) ++ List.replicate (1 - (lg_sl ([.int p0])).length) Slot.unset).toArray = ls at hl ⊢
  have hl : lv_has ls 1 [(0, .int p0)] := hl
  refine lv_iload_n hx hb dX5_needSize_0 rfl (lv_at hl 0 rfl) ?_
  refine lv_if_ge (tgt := 14) hx hb dX5_needSize_1 (by decide) (fun c_1 => ?_) (fun c_1 => ?_)
  · exact absurd hc (Int32.not_lt.mpr c_1)
  · exact xt_throwS (own := RX5) (names := ["java/lang/RuntimeException", "java/lang/Exception"]) hx hb h.1 hown (by decide) (by decide) (k_287 h hb0) (k_12 h hb0) (k_296 h hb0) (xo_150 h hb0) (hl.1.trans hml.symm) hout hlocks dX5_needSize_4 dX5_needSize_7 dX5_needSize_8 dX5_needSize_10 dX5_needSize_13 (by decide) (by decide) (by decide) (by decide) (by decide) (by decide)
set_option maxHeartbeats 4000000 in
set_option maxRecDepth 100000 in
theorem c_needPlace {l : Launch} {s0 : State} {a0 : Array Value} {dC : Nat → ClassId} {dI : Nat → Nat → Nat} {cA : Nat → ClassId} (h : xC l s0 a0 dC dI cA) (p0 p1 : Int32) (hc : ¬ p0 < 0) (hd : p0 < p1) : Met l yX5_needPlace [Cond.code yX5_needPlace cX5_needPlace 2 none] ({ frames := 0, cells := 0, slots := 0, locals := 0 } : Room) (xP s0 (dC, dI) [.int p0, .int p1] []) (xR none) 0 0 (fun _ => False) := by
  refine Met.ofW (cc := cX5_needPlace) (maxL := 2) (ret := none) (by decide) rfl ?_
  intro p e s m args below meth c s₁ B hml hv
  obtain ⟨rfl, hb0, hP⟩ := hv
  have hx := B.exec
  have hb := B.bytes
  have hr := B.returns
  have hown : s.vm.findClass RX5 = some m.cls := findClass_of_methodNamed B.named
  have hlocks := B.notSynchronized
  have hK := h.K hb0
  have hS : va_S (fun _ : Nat => False) s.heap s.heap [] := va_S.rf
  have hz : ∀ q : Nat, (fun _ : Nat => False) q → s0.heap.size ≤ q := fun _ z => z.elim
  have hl := lv_entry ([.int p0, .int p1]) (n := 2) (Nat.le_of_ble_eq_true rfl)
  rw [lg_entry_eq]
  generalize (lg_sl ([.int p0, .int p1]) ++ List.replicate (2 - (lg_sl ([.int p0, .int p1])).length) Slot.unset).toArray = ls at hl ⊢
  have hl : lv_has ls 2 [(0, .int p0), (1, .int p1)] := hl
  refine lv_iload_n hx hb dX5_needPlace_0 rfl (lv_at hl 0 rfl) ?_
  refine lv_if_lt (tgt := 9) hx hb dX5_needPlace_1 (by decide) (fun c_1 => ?_) (fun c_1 => ?_)
  · exact absurd c_1 hc
  · refine lv_iload_n hx hb dX5_needPlace_4 rfl (lv_at hl 0 rfl) ?_
    refine lv_iload_n hx hb dX5_needPlace_5 rfl (lv_at hl 1 rfl) ?_
    refine lv_icmp_lt (tgt := 19) hx hb dX5_needPlace_6 (by decide) (fun c_2 => ?_) (fun c_2 => ?_)
    · exact W.vret hx hb hr (fun t ht _ => ⟨rfl, ht⟩) (fun q z => nomatch z) dX5_needPlace_19
    · exact absurd hd c_2
set_option maxHeartbeats 4000000 in
set_option maxRecDepth 100000 in
theorem t_needPlace {l : Launch} {s0 : State} {a0 : Array Value} {dC : Nat → ClassId} {dI : Nat → Nat → Nat} {cA : Nat → ClassId} (h : xC l s0 a0 dC dI cA) (p0 p1 : Int32) (hc : p0 < 0 ∨ ¬ p0 < p1) : xt_Met l yX5_needPlace [Cond.code yX5_needPlace cX5_needPlace 2 none] ({ frames := 7, cells := 1, slots := 6, locals := 100 } : Room) (xP s0 (dC, dI) [.int p0, .int p1] []) "java/lang/ArrayIndexOutOfBoundsException" 1 6 := by
  refine xt_ofW (cc := cX5_needPlace) (maxL := 2) (ret := none) (by decide) rfl ?_
  intro p e s m args below meth c s₁ B hml hout hv
  obtain ⟨rfl, hb0, hP⟩ := hv
  have hx := B.exec
  have hb := B.bytes
  have hr := B.returns
  have hown : s.vm.findClass RX5 = some m.cls := findClass_of_methodNamed B.named
  have hlocks := B.notSynchronized
  have hK := h.K hb0
  have hS : va_S (fun _ : Nat => False) s.heap s.heap [] := va_S.rf
  have hz : ∀ q : Nat, (fun _ : Nat => False) q → s0.heap.size ≤ q := fun _ z => z.elim
  have hl := lv_entry ([.int p0, .int p1]) (n := 2) (Nat.le_of_ble_eq_true rfl)
  rw [lg_entry_eq]
  generalize (lg_sl ([.int p0, .int p1]) ++ List.replicate (2 - (lg_sl ([.int p0, .int p1])).length) Slot.unset).toArray = ls at hl ⊢
  have hl : lv_has ls 2 [(0, .int p0), (1, .int p1)] := hl
  refine lv_iload_n hx hb dX5_needPlace_0 rfl (lv_at hl 0 rfl) ?_
  refine lv_if_lt (tgt := 9) hx hb dX5_needPlace_1 (by decide) (fun c_1 => ?_) (fun c_1 => ?_)
  · exact xt_throwS (own := RX5) (names := ["java/lang/IndexOutOfBoundsException", "java/lang/RuntimeException", "java/lang/Exception"]) hx hb h.1 hown (by decide) (by decide) (k_233 h hb0) (k_11 h hb0) (k_244 h hb0) (xo_145 h hb0) (hl.1.trans hml.symm) hout hlocks dX5_needPlace_9 dX5_needPlace_12 dX5_needPlace_13 dX5_needPlace_15 dX5_needPlace_18 (by decide) (by decide) (by decide) (by decide) (by decide) (by decide)
  · refine lv_iload_n hx hb dX5_needPlace_4 rfl (lv_at hl 0 rfl) ?_
    refine lv_iload_n hx hb dX5_needPlace_5 rfl (lv_at hl 1 rfl) ?_
    refine lv_icmp_lt (tgt := 19) hx hb dX5_needPlace_6 (by decide) (fun c_2 => ?_) (fun c_2 => ?_)
    · exact absurd hc (fun z => z.elim c_1 (fun y => y c_2))
    · exact xt_throwS (own := RX5) (names := ["java/lang/IndexOutOfBoundsException", "java/lang/RuntimeException", "java/lang/Exception"]) hx hb h.1 hown (by decide) (by decide) (k_233 h hb0) (k_11 h hb0) (k_244 h hb0) (xo_145 h hb0) (hl.1.trans hml.symm) hout hlocks dX5_needPlace_9 dX5_needPlace_12 dX5_needPlace_13 dX5_needPlace_15 dX5_needPlace_18 (by decide) (by decide) (by decide) (by decide) (by decide) (by decide)
set_option maxHeartbeats 4000000 in
set_option maxRecDepth 100000 in
theorem c_needDivisor {l : Launch} {s0 : State} {a0 : Array Value} {dC : Nat → ClassId} {dI : Nat → Nat → Nat} {cA : Nat → ClassId} (h : xC l s0 a0 dC dI cA) (p0 : Int64) (hc : ¬ p0 = 0) : Met l yX5_needDivisor [Cond.code yX5_needDivisor cX5_needDivisor 2 none] ({ frames := 0, cells := 0, slots := 0, locals := 0 } : Room) (xP s0 (dC, dI) [.long p0] []) (xR none) 0 0 (fun _ => False) := by
  refine Met.ofW (cc := cX5_needDivisor) (maxL := 2) (ret := none) (by decide) rfl ?_
  intro p e s m args below meth c s₁ B hml hv
  obtain ⟨rfl, hb0, hP⟩ := hv
  have hx := B.exec
  have hb := B.bytes
  have hr := B.returns
  have hown : s.vm.findClass RX5 = some m.cls := findClass_of_methodNamed B.named
  have hlocks := B.notSynchronized
  have hK := h.K hb0
  have hS : va_S (fun _ : Nat => False) s.heap s.heap [] := va_S.rf
  have hz : ∀ q : Nat, (fun _ : Nat => False) q → s0.heap.size ≤ q := fun _ z => z.elim
  have hl := lv_entry ([.long p0]) (n := 2) (Nat.le_of_ble_eq_true rfl)
  rw [lg_entry_eq]
  generalize (lg_sl ([.long p0]) ++ List.replicate (2 - (lg_sl ([.long p0])).length) Slot.unset).toArray = ls at hl ⊢
  have hl : lv_has ls 2 [(0, .long p0)] := hl
  refine lv_lload_n hx hb dX5_needDivisor_0 rfl (lv_at hl 0 rfl) ?_
  refine lv_lconst (v := 0) hx hb dX5_needDivisor_1 (by decide) ?_
  refine xlcmp hx hb dX5_needDivisor_2 (fun v hv => ?_)
  refine lv_if_ne (tgt := 16) hx hb dX5_needDivisor_3 (by decide) (fun c_1 => ?_) (fun c_1 => ?_)
  · exact W.vret hx hb hr (fun t ht _ => ⟨rfl, ht⟩) (fun q z => nomatch z) dX5_needDivisor_16
  · exact absurd (hv.mp c_1) hc
set_option maxHeartbeats 4000000 in
set_option maxRecDepth 100000 in
theorem t_needDivisor {l : Launch} {s0 : State} {a0 : Array Value} {dC : Nat → ClassId} {dI : Nat → Nat → Nat} {cA : Nat → ClassId} (h : xC l s0 a0 dC dI cA) (p0 : Int64) (hc : p0 = 0) : xt_Met l yX5_needDivisor [Cond.code yX5_needDivisor cX5_needDivisor 2 none] ({ frames := 6, cells := 1, slots := 6, locals := 100 } : Room) (xP s0 (dC, dI) [.long p0] []) "java/lang/ArithmeticException" 1 6 := by
  refine xt_ofW (cc := cX5_needDivisor) (maxL := 2) (ret := none) (by decide) rfl ?_
  intro p e s m args below meth c s₁ B hml hout hv
  obtain ⟨rfl, hb0, hP⟩ := hv
  have hx := B.exec
  have hb := B.bytes
  have hr := B.returns
  have hown : s.vm.findClass RX5 = some m.cls := findClass_of_methodNamed B.named
  have hlocks := B.notSynchronized
  have hK := h.K hb0
  have hS : va_S (fun _ : Nat => False) s.heap s.heap [] := va_S.rf
  have hz : ∀ q : Nat, (fun _ : Nat => False) q → s0.heap.size ≤ q := fun _ z => z.elim
  have hl := lv_entry ([.long p0]) (n := 2) (Nat.le_of_ble_eq_true rfl)
  rw [lg_entry_eq]
  generalize (lg_sl ([.long p0]) ++ List.replicate (2 - (lg_sl ([.long p0])).length) Slot.unset).toArray = ls at hl ⊢
  have hl : lv_has ls 2 [(0, .long p0)] := hl
  refine lv_lload_n hx hb dX5_needDivisor_0 rfl (lv_at hl 0 rfl) ?_
  refine lv_lconst (v := 0) hx hb dX5_needDivisor_1 (by decide) ?_
  refine xlcmp hx hb dX5_needDivisor_2 (fun v hv => ?_)
  refine lv_if_ne (tgt := 16) hx hb dX5_needDivisor_3 (by decide) (fun c_1 => ?_) (fun c_1 => ?_)
  · exact absurd (hv.mpr hc) c_1
  · exact xt_throwS (own := RX5) (names := ["java/lang/RuntimeException", "java/lang/Exception"]) hx hb h.1 hown (by decide) (by decide) (k_494 h hb0) (k_17 h hb0) (k_503 h hb0) (xo_135 h hb0) (hl.1.trans hml.symm) hout hlocks dX5_needDivisor_6 dX5_needDivisor_9 dX5_needDivisor_10 dX5_needDivisor_12 dX5_needDivisor_15 (by decide) (by decide) (by decide) (by decide) (by decide) (by decide)
end
section
/-! 'throw new NullPointerException("text")': its own fillInStackTrace stands between Throwable's constructor and Throwable's fillInStackTrace. No traces are kept. The rows follow the library's for the plain constructors (ColdThrowSV, ColdThrowSWholeV, StandCtorColdV, BundleOwnThrow) and for the machine's own throw (ColdNpeV). -/
theorem xn_mono (vm : Vm) : ∀ (n : Nat) (a b : ClassId), vm.isSubclassAux n a b = true → vm.isSubclassAux (n + 1) a b = true
  | 0, a, b, h => by simp [Vm.isSubclassAux] at h
  | n + 1, a, b, h => by
    rw [Vm.isSubclassAux, Bool.or_eq_true] at h
    rw [Vm.isSubclassAux, Bool.or_eq_true]
    rcases h with h | h
    · exact Or.inl h
    · refine Or.inr ?_
      cases hk : vm.classes[a]? with
      | none => simp [hk] at h
      | some k =>
        simp only [hk] at h ⊢
        cases hs : k.super with
        | none => simp [hs] at h
        | some q =>
          simp only [hs] at h ⊢
          exact xn_mono vm n q b h
theorem xn_cast {s : State} {args : Array Value} (h1 : (Cond.lays Bundle.nN Bundle.tN "cause" "Ljava/lang/Throwable;").before args s = true) (h2 : (Cond.superclass Bundle.nN Bundle.rN).before args s = true) (h3 : (Cond.superclass Bundle.tN "java/lang/Object").before args s = true) : (Cond.castable Bundle.rN Bundle.tN).before args s = true := by
  obtain ⟨c, k, cT, kf, fi, fd, r1, r2, hi, -, -, hasg, -⟩ := Cond.lays_spec h1
  have hcT : s.vm.findClass Bundle.tN = some cT := Cond.lays_declared h1 hi
  obtain ⟨cR, k2, kR, hcR, hk2, hkR, hsup, hord, hordR, -⟩ := Cond.superclass_spec r1 h2
  cases r2.symm.trans hk2
  obtain ⟨cO, kT, kO, -, hkT, -, -, hordT, -, hniT⟩ := Cond.superclass_spec hcT h3
  have hsub : s.vm.isSubclass c cT = true := isSubclass_of_assignable r2 hkT hord hordT hniT hasg
  have hne : ¬ c = cT := by
    intro he
    obtain ⟨ka, ha, hna⟩ := Vm.findClass_spec r1
    obtain ⟨kb, hb, hnb⟩ := Vm.findClass_spec hcT
    rw [he] at ha
    cases ha.symm.trans hb
    exact absurd (hna.symm.trans hnb) (by decide)
  have hR : s.vm.isSubclass cR cT = true := by
    rw [Vm.isSubclass, Vm.isSubclassAux, Bool.or_eq_true] at hsub
    rcases hsub with z | z
    · exact absurd (by simpa using z) hne
    · simp only [r2, hsup] at z
      exact xn_mono _ _ _ _ z
  have hA : s.vm.assignable cR cT = true := by
    unfold Vm.assignable
    rw [Vm.assignableAux, Bool.or_eq_true]
    exact Or.inr (by simp [hkR, hkT, hordR, hordT, hniT, hR])
  simp [Cond.before, Cond.holds, Cond.value, hcR, hcT, hA]
section XNF
variable {self : Addr}
theorem xn_rooms {e : Env} {V : State} {g : JFrame} (htop : V.topJava?.isSome) (T : ThrowableC) (N : NpeC) (y : Cell) {lim : Nat × Nat} (hlim : e.platform.stackLimits V.me = lim) {t : ThreadId} (hframes : V.frames.length + 2 < lim.1) (hwords : (stackUse (.java g :: V.frames.tail)).2 + 43 ≤ lim.2) :
    e.platform.stackFull (((V.setTop g).threads[(V.setTop g).cur]?).getD { frames := [] }) (V.setTop g).frames (1 + 2) = false ∧
    e.platform.stackFull ((((npeInside V g N.toNpeT self y).setTop (fillJ N.fill self 37 [])).threads[((npeInside V g N.toNpeT self y).setTop (fillJ N.fill self 37 [])).cur]?).getD { frames := [] }) ((npeInside V g N.toNpeT self y).setTop (fillJ N.fill self 37 [])).frames (1 + 2) = false ∧
    e.platform.stackFull ((((fillInside (npeInside V g N.toNpeT self y) (fillJ N.fill self 37 []) T.fill self (npeCell N.toNpeT y t)).setTop (fillJ T.fill self 16 [])).threads[((fillInside (npeInside V g N.toNpeT self y) (fillJ N.fill self 37 []) T.fill self (npeCell N.toNpeT y t)).setTop (fillJ T.fill self 16 [])).cur]?).getD { frames := [] }) ((fillInside (npeInside V g N.toNpeT self y) (fillJ N.fill self 37 []) T.fill self (npeCell N.toNpeT y t)).setTop (fillJ T.fill self 16 [])).frames (nativeFrameWords "java/lang/Throwable" "fillInStackTrace" 2) = false := by
  obtain ⟨g₀, hg⟩ := Option.isSome_iff_exists.mp htop
  obtain ⟨tl, htl⟩ := State.topJava?_eq_some.mp hg
  have hlen : V.frames.length = (Frame.java g :: V.frames.tail).length := by rw [htl]; rfl
  have hfg : (V.setTop g).frames = .java g :: V.frames.tail := by rw [State.frames_setTop _ htl, htl]; rfl
  have hlimg : e.platform.stackLimits (V.setTop g).me = lim := by rw [State.stackLimits_setTop _ htop]; exact hlim
  have r1 := roomAbove (pl := e.platform) (u := V.setTop g) (vars := 1 + 2) (pushed := []) (base := .java g :: V.frames.tail) (free := 43) (lim := lim) hfg hlimg (by rw [← hlen]; simp only [List.length_nil]; omega) hwords (by simp only [stackUse_nil]; omega)
  have htopE : (V.setCell self (y.withEntry V.cur)).topJava?.isSome := htop
  have hfN : (npeInside V g N.toNpeT self y).frames = .java (entryFrameSync N.fill #[.ref self] 1 self) :: .java g :: V.frames.tail := by
    show (fillInside V g N.fill self y).frames = _
    rw [show (fillInside V g N.fill self y).frames = _ from frames_entered (g := g) htopE _]
    rfl
  have htopN : (npeInside V g N.toNpeT self y).topJava?.isSome := by rw [State.topJava?_of_frames hfN]; rfl
  have hlimN : e.platform.stackLimits (npeInside V g N.toNpeT self y).me = lim := by
    show e.platform.stackLimits (fillInside V g N.fill self y).me = lim
    rw [State.stackLimits_pushFrame, State.stackLimits_setTop _ htopE]; exact hlim
  have hw14 : (stackUse [Frame.java (fillJ N.fill self 37 [])]).2 = 14 := by
    rw [stackUse_java, stackUse_nil]
    simp [operandWords]
  have r2 := roomAbove (pl := e.platform) (u := (npeInside V g N.toNpeT self y).setTop (fillJ N.fill self 37 [])) (vars := 1 + 2)
      (pushed := [.java (fillJ N.fill self 37 [])]) (base := .java g :: V.frames.tail) (free := 43) (lim := lim) (State.frames_setTop _ hfN) (by rw [State.stackLimits_setTop _ htopN]; exact hlimN)
      (by rw [← hlen]; simp only [List.length_cons, List.length_nil]; omega) hwords (by rw [hw14]; omega)
  have htopE2 : ((npeInside V g N.toNpeT self y).setCell self ((npeCell N.toNpeT y t).withEntry (npeInside V g N.toNpeT self y).cur)).topJava?.isSome := by rw [State.topJava?_setCell]; exact htopN
  have hfF2 : (fillInside (npeInside V g N.toNpeT self y) (fillJ N.fill self 37 []) T.fill self (npeCell N.toNpeT y t)).frames = .java (entryFrameSync T.fill #[.ref self] 1 self) :: .java (fillJ N.fill self 37 []) :: .java g :: V.frames.tail := by
    rw [show (fillInside (npeInside V g N.toNpeT self y) (fillJ N.fill self 37 []) T.fill self (npeCell N.toNpeT y t)).frames = _ from frames_entered (g := (fillJ N.fill self 37 [])) htopE2 _]
    show _ :: _ :: ((npeInside V g N.toNpeT self y).frames).tail = _
    rw [hfN]; rfl
  have htopF2 : (fillInside (npeInside V g N.toNpeT self y) (fillJ N.fill self 37 []) T.fill self (npeCell N.toNpeT y t)).topJava?.isSome := by rw [State.topJava?_of_frames hfF2]; rfl
  have hlimF2 : e.platform.stackLimits (fillInside (npeInside V g N.toNpeT self y) (fillJ N.fill self 37 []) T.fill self (npeCell N.toNpeT y t)).me = lim := by
    rw [State.stackLimits_pushFrame, State.stackLimits_setTop _ htopE2]; exact hlimN
  have hw28 : (stackUse [Frame.java (fillJ T.fill self 16 []), Frame.java (fillJ N.fill self 37 [])]).2 = 28 := by
    rw [stackUse_java, hw14]
    simp [operandWords]
  have r3 := roomAbove (pl := e.platform) (u := (fillInside (npeInside V g N.toNpeT self y) (fillJ N.fill self 37 []) T.fill self (npeCell N.toNpeT y t)).setTop (fillJ T.fill self 16 [])) (vars := (nativeFrameWords "java/lang/Throwable" "fillInStackTrace" 2))
      (pushed := [.java (fillJ T.fill self 16 []), .java (fillJ N.fill self 37 [])]) (base := .java g :: V.frames.tail) (free := 43) (lim := lim) (State.frames_setTop _ hfF2) (by rw [State.stackLimits_setTop _ htopF2]; exact hlimF2)
      (by rw [← hlen]; simp only [List.length_cons, List.length_nil]; omega) hwords (by rw [hw28]; decide)
  exact ⟨r1, r2, r3⟩
/-- NullPointerException.fillInStackTrace(), called from any frame g -/
theorem xn_fill (p : Program) {e : Env} {below : List Frame} {s₀ V : State} {g : JFrame} {c : Code} (h : At V g.method c below) (hexec : p.tables.exec = Jvm.exec)
    (T : ThrowableC) (L : T.Links e.platform s₀) (N : NpeC) (LN : N.Links T e.platform s₀) (hW : s₀.WarmedH V.vm) (htr : e.platform.stackTraces = false)
    {u0 : RefV} {cell cellS : Cell} {kcell : Class} (hcell : V.heap[self]? = some cell) (hobj : ∀ k, cell.vm ≠ .statics k) (hknown : cell.vm ≠ .unknown) (hfree : cell.monitor.owner = none)
    (hkcell : s₀.vm.classes[cell.cls]? = some kcell) (hsel0 : selectMethod e.platform s₀.vm cell.cls T.fill0 = .method T.fill0)
    (hcellS : V.heap[T.aS]? = some cellS) (hneS : T.aS ≠ self) (hknownS : cellS.vm ≠ .unknown) (hvU : cellS.slots[T.fUnassigned.slot]? = some u0.v)
    (hvS : cell.slots[T.fStack.slot]? = some u0.v) (hv0 : cell.slots[N.fState.slot]? = some (.int 0)) (hneSt : T.fStack.slot ≠ N.fState.slot)
    (htS : Takes s₀ cell T.fStack u0.v) (ht1 : Takes s₀ cell N.fState (.int 1))
    (hskip : SkipFacts T e.platform s₀ (fun u => u) u0 ((npeCell N.toNpeT cell V.cur).withEntry V.cur))
    {ig : Instr} {len : Nat} (hdg : decode c.code g.pc = .ok (ig, len))
    {lim : Nat × Nat} (hlim : e.platform.stackLimits V.me = lim) (hframes : V.frames.length + 2 < lim.1) (hwords : (stackUse (.java g :: V.frames.tail)).2 + 43 ≤ lim.2) :
    ∃ vm', s₀.WarmedH vm' ∧ ∀ target, Steps p.tables e below (((V.setVm vm').setCell self ((((npeCell N.toNpeT cell V.cur).withEntry V.cur).setSlot T.fStack.slot u0.v).left).left).setTop { g with pc := g.pc + len, stack := .ref self :: g.stack }) target →
      Steps p.tables e below (doInvoke e (V.setTop g) [] N.fill #[.ref self]).1 target := by
  have hlt : self < V.heap.size := (Array.getElem?_eq_some_iff.mp hcell).1
  have tk2 : ∀ {f : Field} {v : Value}, Takes s₀ cell f v → Takes s₀ (npeCell N.toNpeT cell V.cur) f v := fun h' => ⟨by simpa [npeCell, Cell.setSlot, Cell.withEntry] using h'.1, h'.2⟩
  have hvSN : (npeCell N.toNpeT cell V.cur).slots[T.fStack.slot]? = some u0.v := by simpa [npeCell, Cell.setSlot, Cell.withEntry, Ne.symm hneSt] using hvS
  have hsz : (((npeCell N.toNpeT cell V.cur).withEntry V.cur)).slots.size = (npeCell N.toNpeT cell V.cur).slots.size := by simp [Cell.withEntry]
  have hinner : ∀ vm1, s₀.WarmedH vm1 → At (npeInside (V.setVm vm1) g N.toNpeT self cell) N.fill N.codeFill below → ∃ vm2, s₀.WarmedH vm2 ∧ ∀ t' : State,
      Steps p.tables e below (((npeInside (V.setVm vm2) g N.toNpeT self cell).setCell self (((npeCell N.toNpeT cell V.cur).withEntry V.cur).setSlot T.fStack.slot u0.v).left).setTop (fillJ N.fill self 40 [.ref self])) t' →
      Steps p.tables e below (doInvoke e ((npeInside (V.setVm vm1) g N.toNpeT self cell).setTop (fillJ N.fill self 37 [])) [] T.fill #[.ref self]).1 t' := by
    intro vm1 hW1 hAt
    obtain ⟨-, r2, -⟩ := xn_rooms (e := e) (V := V.setVm vm1) (g := g) (self := self) (t := V.cur) h.top T N cell hlim hframes hwords
    have hc1 : (npeInside (V.setVm vm1) g N.toNpeT self cell).heap[self]? = some (npeCell N.toNpeT cell V.cur) := heapAt_setCell_self _ (by show self < (V.heap.setIfInBounds self _).size; simpa using hlt)
    have hc2 : (npeInside (V.setVm vm1) g N.toNpeT self cell).heap[T.aS]? = some cellS := by
      show ((V.heap.setIfInBounds self _).setIfInBounds self _)[T.aS]? = _
      simp [Ne.symm hneS, hcellS]
    have hXvm : ∀ vm, (npeInside (V.setVm vm1) g N.toNpeT self cell).setVm vm = npeInside (V.setVm vm) g N.toNpeT self cell := fun vm => by rw [npeInside_setVm, State.setVm_twice]
    have hroomN : ∀ vm, e.platform.stackFull ((((fillInside ((npeInside (V.setVm vm1) g N.toNpeT self cell).setVm vm) (fillJ N.fill self 37 []) T.fill self (npeCell N.toNpeT cell V.cur)).setTop (fillJ T.fill self 16 [])).threads[((fillInside ((npeInside (V.setVm vm1) g N.toNpeT self cell).setVm vm) (fillJ N.fill self 37 []) T.fill self (npeCell N.toNpeT cell V.cur)).setTop (fillJ T.fill self 16 [])).cur]?).getD { frames := [] }) ((fillInside ((npeInside (V.setVm vm1) g N.toNpeT self cell).setVm vm) (fillJ N.fill self 37 []) T.fill self (npeCell N.toNpeT cell V.cur)).setTop (fillJ T.fill self 16 [])).frames (nativeFrameWords "java/lang/Throwable" "fillInStackTrace" 2) = false := fun vm => by
      rw [hXvm]
      exact (xn_rooms (e := e) (V := V.setVm vm) (g := g) (self := self) (t := V.cur) h.top T N cell hlim hframes hwords).2.2
    have hXcur : (npeInside (V.setVm vm1) g N.toNpeT self cell).cur = V.cur := rfl
    generalize hXe : npeInside (V.setVm vm1) g N.toNpeT self cell = X at hAt hc1 hc2 hXvm hroomN hXcur r2 ⊢
    have hXW : s₀.WarmedH X.vm := by rw [← hXe]; exact hW1
    obtain ⟨vm2, hW2, st⟩ := Steps.fillColdAnyV p (V := X) (g := (fillJ N.fill self 37 [])) (c := N.codeFill) (self := self) hAt hexec T L hXW (Nn := fun u => u) heapOnly_id (fun _ _ => rfl) (fun _ => rfl) (fun u x y => setCell_twice _ _ _ _) (cell := npeCell N.toNpeT cell V.cur) (cellS := cellS) (cN := (npeCell N.toNpeT cell V.cur).withEntry V.cur)
      (u0 := u0) (ig := .invokespecial 24) (len := 3) [] hc1 hobj hknown (Or.inr (by rw [hXcur]; rfl)) hvSN hsel0 hc2 hneS hknownS hvU (by rw [hXcur]; exact fun _ hu => hu) (fun _ hu => hu) rfl rfl (by rw [hXcur]) hsz (tk2 htS)
      (by rw [LN.fillBytes]; exact LibCode.NullPointerException.Fill.at_37) (fun _ vm3 hW3 hA3 t' hs => L.nativeOff p htr hA3 hW3 (hroomN vm3) hs) r2 (by rw [hXcur]; exact hskip)
    refine ⟨vm2, hW2, fun t' hs => st t' ?_⟩
    rw [hXvm]
    exact hs
  obtain ⟨r1, -, -⟩ := xn_rooms (e := e) (V := V) (g := g) (self := self) (t := V.cur) h.top T N cell hlim hframes hwords
  obtain ⟨vm', hW', st⟩ := Steps.npeFillColdBy p (V := V) (g := g) (c := c) (self := self) h hexec T L N LN hW (Fi := fun u => u.setCell self (((npeCell N.toNpeT cell V.cur).withEntry V.cur).setSlot T.fStack.slot u0.v).left) (heapOnly_id.thenSetCell self _)
    (fun _ => rfl) (fun u x y => by show ((u.setCell self x).setCell self _).setCell self y = (u.setCell self _).setCell self y; rw [setCell_twice, setCell_twice, setCell_twice]) (cell := cell) (cFi := (((npeCell N.toNpeT cell V.cur).withEntry V.cur).setSlot T.fStack.slot u0.v).left) (kcell := kcell) (ig := ig) (len := len) []
    hcell hobj hknown hfree hkcell hv0 ht1 (fun u hu => heapAt_setCell_self _ (Array.getElem?_eq_some_iff.mp hu).1) (by
      have h1 : (((npeCell N.toNpeT cell V.cur)).withEntry V.cur).left = npeCell N.toNpeT cell V.cur := Cell.left_withEntry_held _ rfl (by show 0 < cell.monitor.count + 1; omega)
      rw [Cell.left_setSlot, h1]; rfl) hdg hinner r1
  refine ⟨vm', hW', fun target hrest => st target ?_⟩
  show Steps p.tables e below ((((V.setVm vm').setCell self _).setCell self _).setTop _) target
  rw [setCell_twice]
  exact hrest
end XNF
end
section
section XNI
variable {self : Addr}
/-- the object as Throwable's constructor leaves it -/
abbrev xn_cell (T : ThrowableT) (N : NpeT) (cell : Cell) (self : Addr) (u0 sen : RefV) (t : ThreadId) : Cell := ((((npeCell N (preparedCellV T cell self u0 sen) t).withEntry t).setSlot T.fStack.slot u0.v).left).left
theorem xn_initS (p : Program) {e : Env} {below : List Frame} {s₀ V : State} {g : JFrame} {c : Code} (h : At V g.method c below) (hexec : p.tables.exec = Jvm.exec)
    (T : ThrowableC) (L : T.Links e.platform s₀) (Z : Init0T) (LZ : Z.LaidS T.toThrowableT) (M : MsgC) (LM : M.Links T e.platform s₀) (N : NpeC) (LN : N.Links T e.platform s₀) (hW : s₀.WarmedH V.vm) (htr : e.platform.stackTraces = false)
    {u0 sen : RefV} {msg : Value} (hmsg : msg.isRef = true) {cell cellS : Cell} {kcell : Class}
    (hcell : V.heap[self]? = some cell) (hobj : ∀ k, cell.vm ≠ .statics k) (hknown : cell.vm ≠ .unknown) (hfree : cell.monitor.owner = none)
    (hkcell : s₀.vm.classes[cell.cls]? = some kcell) (hsel0 : selectMethod e.platform s₀.vm cell.cls T.fill0 = .method T.fill0) (hselF : selectMethod e.platform s₀.vm cell.cls T.fill = .method N.fill)
    (hcellS : V.heap[T.aS]? = some cellS) (hneS : T.aS ≠ self) (hknownS : cellS.vm ≠ .unknown) (hvU : cellS.slots[T.fUnassigned.slot]? = some u0.v) (hvSen : cellS.slots[T.fSentinel.slot]? = some sen.v)
    (hv0 : cell.slots[N.fState.slot]? = some (.int 0)) (hneC : T.fCause.slot ≠ N.fState.slot) (hneSt : T.fStack.slot ≠ N.fState.slot) (hneP : T.fSupp.slot ≠ N.fState.slot)
    (htC : Takes s₀ cell T.fCause (.ref self)) (htS : Takes s₀ cell T.fStack u0.v) (htP : Takes s₀ cell T.fSupp sen.v) (htM : Takes s₀ cell T.fMsg msg) (ht1 : Takes s₀ cell N.fState (.int 1)) (hobjLocals : T.codeObj.maxLocals = 1)
    (hskip : SkipFacts T e.platform s₀ (fun u => u) u0 ((npeCell N.toNpeT (preparedCellV T.toThrowableT cell self u0 sen) V.cur).withEntry V.cur))
    {ig : Instr} {len : Nat} (acts : List Action) {lim : Nat × Nat} (hlim : e.platform.stackLimits V.me = lim) (hframes : V.frames.length + 3 < lim.1) (hwords : (stackUse (.java g :: V.frames.tail)).2 + 56 ≤ lim.2)
    (hdg : decode c.code g.pc = .ok (ig, len)) :
    ∃ vm', s₀.WarmedH vm' ∧ ∀ target, Steps p.tables e below (((V.setVm vm').setCell self ((xn_cell T.toThrowableT N.toNpeT cell self u0 sen V.cur).setSlot T.fMsg.slot msg)).setTop { g with pc := g.pc + len }) target →
      Steps p.tables e below (doInvoke e (V.setTop g) acts (Z.m T.toThrowableT) #[.ref self, msg]).1 target := by
  have hlt : self < V.heap.size := (Array.getElem?_eq_some_iff.mp hcell).1
  obtain ⟨r1, r2, -, -⟩ := plainRoomsV (e := e) (g := g) (self := self) h.top T hobjLocals Z cell u0 sen msg hlim (by omega) (by omega)
  obtain ⟨g₀, hg⟩ := Option.isSome_iff_exists.mp h.top
  obtain ⟨tl, htl⟩ := State.topJava?_eq_some.mp hg
  have tk : ∀ {f : Field} {v : Value}, Takes s₀ cell f v → Takes s₀ (preparedCellV T.toThrowableT cell self u0 sen) f v := fun h' => ⟨by simpa [preparedCellV, Cell.setSlot] using h'.1, h'.2⟩
  have hvS : (preparedCellV T.toThrowableT cell self u0 sen).slots[T.fStack.slot]? = some u0.v := by
    have h1 : T.fStack.slot < cell.slots.size := htS.1
    simp [preparedCellV, Cell.setSlot, Ne.symm L.stackApartSupp, h1]
  have hv0P : (preparedCellV T.toThrowableT cell self u0 sen).slots[N.fState.slot]? = some (.int 0) := by
    simpa [preparedCellV, Cell.setSlot, hneC, hneSt, hneP] using hv0
  have hfill : ∀ vm1, s₀.WarmedH vm1 → At ((initSInside (V.setVm vm1) g T.toThrowableT Z self msg).setCell self (preparedCellV T.toThrowableT cell self u0 sen)) (Z.m T.toThrowableT) Z.code below → ∃ vm2, s₀.WarmedH vm2 ∧ ∀ t' : State,
      Steps p.tables e below ((((initSInside (V.setVm vm2) g T.toThrowableT Z self msg).setCell self (preparedCellV T.toThrowableT cell self u0 sen)).setCell self (xn_cell T.toThrowableT N.toNpeT cell self u0 sen V.cur)).setTop (initSJ T.toThrowableT Z self msg 27 [.ref self])) t' →
      Steps p.tables e below (doInvoke e (((initSInside (V.setVm vm1) g T.toThrowableT Z self msg).setCell self (preparedCellV T.toThrowableT cell self u0 sen)).setTop (initSJ T.toThrowableT Z self msg 24 [])) [] N.fill #[.ref self]).1 t' := by
    intro vm1 hW1 hA
    have htop1 : (V.setVm vm1).topJava?.isSome := h.top
    have hfU : ((initSInside (V.setVm vm1) g T.toThrowableT Z self msg).setCell self (preparedCellV T.toThrowableT cell self u0 sen)).frames = .java (initSJ T.toThrowableT Z self msg 0 []) :: .java g :: V.frames.tail := frames_entered htop1 _
    have hlimU : e.platform.stackLimits ((initSInside (V.setVm vm1) g T.toThrowableT Z self msg).setCell self (preparedCellV T.toThrowableT cell self u0 sen)).me = lim := by
      show e.platform.stackLimits (initSInside (V.setVm vm1) g T.toThrowableT Z self msg).me = lim
      rw [State.stackLimits_pushFrame, State.stackLimits_setTop _ htop1]; exact hlim
    have hXvm : ∀ vm, ((initSInside (V.setVm vm1) g T.toThrowableT Z self msg).setCell self (preparedCellV T.toThrowableT cell self u0 sen)).setVm vm = ((initSInside (V.setVm vm) g T.toThrowableT Z self msg).setCell self (preparedCellV T.toThrowableT cell self u0 sen)) := fun vm => by rw [State.setCell_setVm, initSInside_setVm, State.setVm_twice]
    obtain ⟨vm2, hW2, st⟩ := xn_fill p (V := (initSInside (V.setVm vm1) g T.toThrowableT Z self msg).setCell self (preparedCellV T.toThrowableT cell self u0 sen)) (g := initSJ T.toThrowableT Z self msg 24 []) (c := Z.code) (self := self) hA hexec T L N LN hW1 htr
      (u0 := u0) (cell := preparedCellV T.toThrowableT cell self u0 sen) (cellS := cellS) (kcell := kcell) (heapAt_setCell_self (s := initSInside (V.setVm vm1) g T.toThrowableT Z self msg) _ hlt) hobj hknown hfree hkcell hsel0 (by rw [heapAt_setCell_ne _ (Ne.symm hneS)]; exact hcellS) hneS hknownS hvU hvS hv0P hneSt (tk htS) (tk ht1) hskip
      (ig := .invokevirtual 27) (len := 3) (by rw [LZ.bytes]; exact LibCode.Throwable.InitS.at_24) (lim := lim) hlimU (by rw [hfU]; rw [htl] at hframes; simp only [List.length_cons, htl, List.tail_cons] at hframes ⊢; omega)
      (by
        rw [hfU, List.tail_cons, stackUse_java]
        show (stackUse (Frame.java g :: V.frames.tail)).2 + (2 + 11 + 2 * 0 + operandWords []) + 43 ≤ lim.2
        simp only [operandWords, List.foldl_nil]
        omega)
    refine ⟨vm2, hW2, fun t' hs => st t' ?_⟩
    rw [hXvm]
    exact hs
  have hszC : (xn_cell T.toThrowableT N.toNpeT cell self u0 sen V.cur).slots.size = cell.slots.size := by simp [xn_cell, npeCell, preparedCellV, Cell.setSlot, Cell.withEntry, Cell.left_slots]
  obtain ⟨vm', hW', st⟩ := Steps.throwableInitSColdByV p h hexec T L Z LZ M LM hW (F := fun u => u.setCell self (xn_cell T.toThrowableT N.toNpeT cell self u0 sen V.cur)) (heapOnly_id.thenSetCell self _) (fun u vm => rfl)
    hmsg (cF := xn_cell T.toThrowableT N.toNpeT cell self u0 sen V.cur) hcell hknown (fun u hu => heapAt_setCell_self _ (Array.getElem?_eq_some_iff.mp hu).1) (by rw [Cell.left_cls, Cell.left_cls]; rfl) (by rw [Cell.left_data, Cell.left_data]; rfl)
    hszC htM hdg (mSel := N.fill) (methSel := N.methFill) (kSel := N.kN) hobj hselF LN.method LN.fillAbstract LN.cls LN.notInterface hfill acts hcellS hneS hknownS hvU hvSen htC htS htP r1 r2
  refine ⟨vm', hW', fun target hrest => st target ?_⟩
  show Steps p.tables e below (((((V.setVm vm').setCell self (preparedCellV T.toThrowableT cell self u0 sen)).setCell self _).setCell self _).setTop _) target
  rw [setCell_twice, setCell_twice]
  exact hrest
end XNI
section XNS
variable {p : Program} {l : Launch} {e : Env} {R : Room} {s : State} {m : MethodId} {args : Array Value} {below : List Frame} {meth : Method} {c : Code} {H : Heap} {cells slots : Nat}
theorem xn_chain {T' : State} {locs : List Loc} (X : Stand p l e R s m args below meth c T' locs cells slots) (hexec : p.tables.exec = Jvm.exec) {g : JFrame} (hg : g.method = m) (hsize : g.locals.size = c.maxLocals)
    (T : ThrowableC) (L : T.Links e.platform s) (Z : Init0T) (LZ : Z.LaidS T.toThrowableT) (M : MsgC) (LM : M.Links T e.platform s) (N : NpeC) (LN : N.Links T e.platform s) (htr : e.platform.stackTraces = false)
    (Ps : List PassC) (hL : ∀ P, P ∈ Ps → P.LinksS e.platform s) (hlink : PassesOn (Z.m T.toThrowableT) (Ps.map (·.toPassT)))
    {u0 sen : RefV} {self : Addr} {msg : Value} (hmsg : msg.isRef = true) {cell cellS : Cell} {kcell : Class}
    (hcell : T'.heap[self]? = some cell) (hobj : ∀ k, cell.vm ≠ .statics k) (hknown : cell.vm ≠ .unknown) (hfree : cell.monitor.owner = none) (hcount : cell.monitor.count = 0)
    (hkcell : s.vm.classes[cell.cls]? = some kcell) (hsel0 : selectMethod e.platform s.vm cell.cls T.fill0 = .method T.fill0) (hselF : selectMethod e.platform s.vm cell.cls T.fill = .method N.fill)
    (hcellS : T'.heap[T.aS]? = some cellS) (hneS : T.aS ≠ self) (hknownS : cellS.vm ≠ .unknown) (hvU : cellS.slots[T.fUnassigned.slot]? = some u0.v) (hvSen : cellS.slots[T.fSentinel.slot]? = some sen.v)
    (hv0 : cell.slots[N.fState.slot]? = some (.int 0)) (hneC : T.fCause.slot ≠ N.fState.slot) (hneSt : T.fStack.slot ≠ N.fState.slot) (hneP : T.fSupp.slot ≠ N.fState.slot)
    (htC : Takes s cell T.fCause (.ref self)) (htS : Takes s cell T.fStack u0.v) (htP : Takes s cell T.fSupp sen.v) (htM : Takes s cell T.fMsg msg) (ht1 : Takes s cell N.fState (.int 1)) (hobjLocals : T.codeObj.maxLocals = 1)
    (hskip : SkipFacts T e.platform s (fun u => u) u0 ((npeCell N.toNpeT (preparedCellV T.toThrowableT cell self u0 sen) T'.cur).withEntry T'.cur))
    {ig : Instr} {len : Nat} (acts : List Action) (hdg : decode c.code g.pc = .ok (ig, len))
    (hRframes : Ps.length + 3 < R.frames) (hRlocals : 2 * g.monitorRoom + (g.stack.map fun v => v.category).sum + (13 * Ps.length + 56) ≤ R.locals) :
    ∃ vm', Stand p l e R s m args below meth c ((T'.setVm vm').setCell self ((npeBareV T.toThrowableT N.toNpeT cell self u0 sen).setSlot T.fMsg.slot msg)) (locs ++ [⟨self, T.fCause.slot⟩, ⟨self, T.fStack.slot⟩, ⟨self, T.fSupp.slot⟩, ⟨self, N.fState.slot⟩, ⟨self, T.fStack.slot⟩, ⟨self, T.fMsg.slot⟩]) cells slots ∧
      ∀ target, Steps p.tables e below (((T'.setVm vm').setCell self ((npeBareV T.toThrowableT N.toNpeT cell self u0 sen).setSlot T.fMsg.slot msg)).setTop { g with pc := g.pc + len }) target →
        Steps p.tables e below (doInvoke e (T'.setTop g) acts (firstOf (Z.m T.toThrowableT) (Ps.map (·.toPassT))) #[.ref self, msg]).1 target := by
  have h : At T' g.method c below := by rw [hg]; exact X.here
  have hfr' : T'.frames.length + (Ps.length + 3) < (e.platform.stackLimits T'.me).1 := X.framesAbove hRframes
  have hwd' : (stackUse (.java g :: T'.frames.tail)).2 + (13 * Ps.length + 56) ≤ (e.platform.stackLimits T'.me).2 := X.stackAbove hsize (K := 13 * Ps.length + 56) hRlocals
  obtain ⟨f1, -, -, f4, f5, f6⟩ := chainEnd_facts e.platform self msg (Ps.map (·.toPassT)) T' g h.top
  have fc := chainEnd_cur self msg (Ps.map (·.toPassT)) T' g
  rw [List.length_map] at f5 f6
  have hxe : xn_cell T.toThrowableT N.toNpeT cell self u0 sen T'.cur = npeBareV T.toThrowableT N.toNpeT cell self u0 sen := npeBareV_eq T.toThrowableT N.toNpeT self u0 sen T'.cur hfree hcount
  have key : ∃ vm', s.WarmedH vm' ∧ ∀ target, Steps p.tables e below ((((T'.setVm vm')).setCell self ((xn_cell T.toThrowableT N.toNpeT cell self u0 sen T'.cur).setSlot T.fMsg.slot msg)).setTop { g with pc := g.pc + len }) target →
      Steps p.tables e below (doInvoke e (T'.setTop g) acts (firstOf (Z.m T.toThrowableT) (Ps.map (·.toPassT))) #[.ref self, msg]).1 target := by
    refine Steps.initChainSCold (s₀ := s) hexec (H := fun u => u.setCell self ((xn_cell T.toThrowableT N.toNpeT cell self u0 sen T'.cur).setSlot T.fMsg.slot msg)) (heapOnly_id.thenSetCell self _) (Z.m T.toThrowableT) hmsg (e.platform.stackLimits T'.me) Ps T' g c ig len acts h X.warmed hL hlink hdg rfl (by omega) (by omega) (fun vm1 hW1 c' ig' len' hA' hdg' => ?_)
    simp only [chainEnd_setVm] at hA' hdg' ⊢
    generalize chainEnd self msg T' g (Ps.map (·.toPassT)) = E at f1 f4 f5 f6 fc hA' hdg' ⊢
    have fc2 : (E.1.setVm vm1).cur = T'.cur := fc
    obtain ⟨vm2, hW2, st⟩ := xn_initS p (V := E.1.setVm vm1) (g := E.2) (self := self) hA' hexec T L Z LZ M LM N LN hW1 htr hmsg (cell := cell) (cellS := cellS) (kcell := kcell) (u0 := u0) (sen := sen)
      (by show E.1.heap[self]? = _; rw [f1]; exact hcell) hobj hknown hfree hkcell hsel0 hselF (by show E.1.heap[T.aS]? = _; rw [f1]; exact hcellS) hneS hknownS hvU hvSen hv0 hneC hneSt hneP htC htS htP htM ht1 hobjLocals (by rw [fc2]; exact hskip) []
      (lim := e.platform.stackLimits T'.me) (by show e.platform.stackLimits E.1.me = _; rw [f4]) (by show E.1.frames.length + 3 < _; rw [f5]; omega) (by show (stackUse (.java E.2 :: E.1.frames.tail)).2 + 56 ≤ _; rw [f6]; omega) hdg'
    rw [fc2] at st
    exact ⟨vm2, hW2, fun t' hs => st t' (by rw [State.setVm_twice]; exact hs)⟩
  obtain ⟨vm', hW', st⟩ := key
  rw [hxe] at st
  have X2 := X.noted hW'
  have ha : self < (T'.setVm vm').heap.size := (Array.getElem?_eq_some_iff.mp hcell).1
  have X3 := (((((X2.stored (a := self) hcell T.fCause.slot (.ref self)).storedAgain ha T.fStack.slot u0.v).storedAgain ha T.fSupp.slot sen.v).storedAgain ha N.fState.slot (.int 1)).storedAgain ha T.fStack.slot u0.v).storedAgain ha T.fMsg.slot msg
  refine ⟨vm', ?_, st⟩
  simpa only [List.append_assoc, List.cons_append, List.nil_append] using X3
/-- what a throw of a NullPointerException asks of the tables -/
def xn_at (own : String) (ic : Nat) : List Cond :=
  Bundle.throwableAtoms ++ Bundle.throwableSAtoms ++ Bundle.npeAtoms ++ Bundle.chainSAtoms Bundle.nN [Bundle.rN, Bundle.eN] ++
  [.methodLink own ic (Bundle.initS Bundle.nN), .instantiable Bundle.nN 8, .selects Bundle.nN Bundle.tFill0 Bundle.tFill0, .selects Bundle.nN Bundle.tFill Bundle.nFill,
   .lays Bundle.nN Bundle.tN "cause" "Ljava/lang/Throwable;", .lays Bundle.nN Bundle.tN "stackTrace" Bundle.steD, .lays Bundle.nN Bundle.tN "suppressedExceptions" Bundle.listD, .lays Bundle.nN Bundle.tN "detailMessage" "Ljava/lang/String;", .lays Bundle.nN Bundle.nN "extendedMessageState" "I",
   .isRef (.static Bundle.tN "UNASSIGNED_STACK" Bundle.steD), .isRef (.static Bundle.tN "SUPPRESSED_SENTINEL" Bundle.listD),
   .fieldLink Bundle.tN 198 Bundle.tN "backtrace" "Ljava/lang/Object;", .lays Bundle.tN Bundle.tN "backtrace" "Ljava/lang/Object;", .lays Bundle.nN Bundle.tN "backtrace" "Ljava/lang/Object;"]
set_option maxHeartbeats 1000000 in
theorem xt_throwN {cc : ByteArray} {own : String} {pc mc ms : Nat} {ls : Array Slot} {rest : List Value} (hexec : p.tables.exec = Jvm.exec) (hb : c.code = cc) (htl : l.stackTraces = false) {text : String} {ik is ic : Nat}
    (hown : s.vm.findClass own = some m.cls)
    (hk0 : (Cond.classLink own ik Bundle.nN).before args s = true) (hini : (Cond.initialized Bundle.nN).before args s = true) (hstr : (Cond.stringRef own is text).before args s = true) (hat : ∀ w ∈ xn_at own ic, w.before args s = true)
    (hsize : ls.size = c.maxLocals) (hout : c.exceptionTable.toList = []) (hlocks : meth.locks = false)
    (d0 : decode cc pc = .ok (.new ik, 3)) (d3 : decode cc (pc + 3) = .ok (.dup, 1)) (d4 : decode cc (pc + 4) = .ok (.ldc is, 2)) (d6 : decode cc (pc + 6) = .ok (.invokespecial ic, 3)) (d9 : decode cc (pc + 9) = .ok (.athrow, 1))
    (hRframes : 6 < R.frames) (hRlocals : (rest.map fun v => v.category).sum + 110 ≤ R.locals) (hRcells : cells + 1 ≤ R.cells) (hRslots : slots + 8 ≤ R.slots) (hc : cells + 1 ≤ mc) (hs : slots + 8 ≤ ms) :
    W p l e R s m args below meth c H [] cells slots (xt_Z below Bundle.nN args s mc ms) (F0 m pc ls rest) := by
  intro T0 hT X0
  have htr : e.platform.stackTraces = false := (show e.platform.stackTraces = l.stackTraces by rw [X0.admits.platform]).trans htl
  subst hb
  obtain ⟨-, -, -, sa, -, -, -, -, -, hev⟩ := Cond.stringRef_spec hown hstr
  obtain ⟨vm₁, cX, kX, hfX, hkX, -, -, X, st1⟩ := X0.newCold hexec (own := own) (C := Bundle.nN) (index := ik) (n := 8) hown hk0 (hat _ (by simp [xn_at])) hini (g := F0 m pc ls rest) rfl d0 hRcells hRslots
  generalize hT1 : (T0.setVm vm₁).pushCell { cls := cX, slots := kX.instanceTypes.map defaultValue, vm := .none } = W at X st1
  have hcell : W.heap[T0.heap.size]? = some (freshCell cX kX) := by rw [← hT1]; exact State.heap_pushCell_size _ _
  have hnew : s.heap.size ≤ T0.heap.size := X0.same.2.1
  generalize T0.heap.size = a at hcell hnew st1
  have hcat : (Value.ref a).category = 1 := rfl
  have howns : e.platform.frameOwnsMonitors = true := by rw [X.admits.platform]
  have hfin : e.platform.finalization = false := by rw [X.admits.platform]
  have hpl : e.platform.magicAccessors = ({} : Platform).magicAccessors := by rw [X.admits.platform]
  have hpl2 : e.platform.arrayCloneIsPublic = true := by rw [X.admits.platform]
  have a' : ∀ w, w ∈ xn_at own ic → w.holds args s none s [] = true := fun w hw => hat w hw
  obtain ⟨T, Z0, L, -, Y⟩ := ThrowableC.of_atoms (args := args) howns hfin hpl (fun w hw => hat w (by simp [xn_at, hw]))
  obtain ⟨Z, M, LZ, LM, hnZ⟩ := Init0T.ofS_atoms (args := args) hpl L Y (fun w hw => hat w (by simp [xn_at, hw]))
  obtain ⟨N, LN, hcN, hnNF, hordN, hffS⟩ := NpeC.of_atoms (args := args) hpl hpl2 L Y (fun w hw => hat w (by simp [xn_at, hw]))
  obtain ⟨P1, Ps, hlen, L1, hL, hP1m, hlink1, hlink⟩ := Bundle.chainS (args := args) hpl hnZ [Bundle.rN, Bundle.eN] Bundle.nN (by decide) (by decide) (fun w hw => hat w (by simp [xn_at, hw]))
  have hfound : s.vm.findClass Bundle.nN = some N.cN := hcN
  cases Option.some.inj (hfX.symm.trans hfound)
  obtain ⟨c1, kX', hc1, hk, hord, -, -, hn8⟩ := Cond.instantiable_spec (a' (.instantiable Bundle.nN 8) (by simp [xn_at]))
  cases Option.some.inj (hc1.symm.trans hfound)
  cases Option.some.inj (hkX.symm.trans hk)
  have hsel0 : selectMethod e.platform s.vm N.cN T.fill0 = .method T.fill0 := by
    obtain ⟨c2, r2, m2, q1, q2, q3, q4, -⟩ := Cond.selects_spec (a' (.selects Bundle.nN Bundle.tFill0 Bundle.tFill0) (by simp [xn_at]))
    cases Option.some.inj (q1.symm.trans hfound)
    cases Option.some.inj (q2.symm.trans (State.methodFound?_of_named Y.fill0 (by decide)))
    cases Option.some.inj (q3.symm.trans Y.fill0)
    rw [Launch.admits_selectMethod X.admits]; exact q4
  have hselF : selectMethod e.platform s.vm N.cN T.fill = .method N.fill := by
    obtain ⟨c2, r2, m2, q1, q2, q3, q4, -⟩ := Cond.selects_spec (a' (.selects Bundle.nN Bundle.tFill Bundle.nFill) (by simp [xn_at]))
    cases Option.some.inj (q1.symm.trans hfound)
    cases Option.some.inj (q2.symm.trans (State.methodFound?_of_named Y.fill (by decide)))
    cases Option.some.inj (q3.symm.trans hnNF)
    rw [Launch.admits_selectMethod X.admits]; exact q4
  obtain ⟨cellS0, hcS0, hiss⟩ := Y.statics
  obtain ⟨u0, hu0⟩ := Cond.staticRefV Y.unassigned L.unassignedStatic L.statics hcS0 hiss (a' (.isRef (.static Bundle.tN "UNASSIGNED_STACK" Bundle.steD)) (by simp [xn_at]))
  obtain ⟨sen, hsen⟩ := Cond.staticRefV Y.sentinel L.sentinelStatic L.statics hcS0 hiss (a' (.isRef (.static Bundle.tN "SUPPRESSED_SENTINEL" Bundle.listD)) (by simp [xn_at]))
  obtain ⟨ci198, i198, fB, hk198, hg198, ha198, hsB, -, hnB, htB, hffB⟩ := Cond.ownField (t := .object "java/lang/Object") Y.found L.cls (by decide +kernel) (a' (.fieldLink Bundle.tN 198 Bundle.tN "backtrace" "Ljava/lang/Object;") (by simp [xn_at])) (a' (.lays Bundle.tN Bundle.tN "backtrace" "Ljava/lang/Object;") (by simp [xn_at])) e.platform hpl
  obtain ⟨cellS, hcS', heS, -, hkeep⟩ := X.same.2.2.2.2.2 T.aS cellS0 hcS0
  have hcellS : W.heap[T.aS]? = some cellS := hcS'
  have hknownS : cellS.vm ≠ .unknown := by
    rw [heS]; intro hu
    rw [show cellS0.vm = .unknown from hu] at hiss
    cases hiss
  have hneS : T.aS ≠ a := Nat.ne_of_lt (Nat.lt_of_lt_of_le (Array.getElem?_eq_some_iff.mp hcS0).1 hnew)
  obtain ⟨iM, hffM⟩ := Y.msg
  obtain ⟨tyC, dC, hdC, hdnC⟩ := Cond.laysAt hfound hk Y.cause (a' (.lays Bundle.nN Bundle.tN "cause" "Ljava/lang/Throwable;") (by simp [xn_at]))
  obtain ⟨tyS, dS, hdS, hdnS⟩ := Cond.laysAt hfound hk Y.stack (a' (.lays Bundle.nN Bundle.tN "stackTrace" Bundle.steD) (by simp [xn_at]))
  obtain ⟨tyP, dP, hdP, hdnP⟩ := Cond.laysAt hfound hk Y.supp (a' (.lays Bundle.nN Bundle.tN "suppressedExceptions" Bundle.listD) (by simp [xn_at]))
  obtain ⟨tyM, dM, hdM, hdnM⟩ := Cond.laysAt hfound hk hffM (a' (.lays Bundle.nN Bundle.tN "detailMessage" "Ljava/lang/String;") (by simp [xn_at]))
  obtain ⟨tyB, dB, hdB, hdnB⟩ := Cond.laysAt hfound hk hffB (a' (.lays Bundle.nN Bundle.tN "backtrace" "Ljava/lang/Object;") (by simp [xn_at]))
  obtain ⟨tyX, dX, hdX, hdnX⟩ := Cond.laysAt hfound hk hffS (a' (.lays Bundle.nN Bundle.nN "extendedMessageState" "I") (by simp [xn_at]))
  have hnX : N.fState.name = "extendedMessageState" := (State.fieldFound?_type hffS (t := .int) (by decide +kernel)).1
  have bC := Cond.laysApart hdB hdC hdnB hdnC (by rw [hnB, Y.causeName]; decide)
  have bS := Cond.laysApart hdB hdS hdnB hdnS (by rw [hnB, Y.stackName]; decide)
  have bP := Cond.laysApart hdB hdP hdnB hdnP (by rw [hnB, Y.suppName]; decide)
  have bX := Cond.laysApart hdB hdX hdnB hdnX (by rw [hnB, hnX]; decide)
  have nCX := Cond.laysApart hdC hdX hdnC hdnX (by rw [Y.causeName, hnX]; decide)
  have nSX := Cond.laysApart hdS hdX hdnS hdnX (by rw [Y.stackName, hnX]; decide)
  have nPX := Cond.laysApart hdP hdX hdnP hdnX (by rw [Y.suppName, hnX]; decide)
  have hskip : SkipFacts T e.platform s (fun u => u) u0 ((npeCell N.toNpeT (preparedCellV T.toThrowableT (freshCell N.cN kX) a u0 sen) W.cur).withEntry W.cur) :=
    ⟨{ ci198 := ci198, i198 := i198, fBack := fB }, ⟨hk198, hg198, ha198, hsB⟩, by
      have := fresh_default (c := N.cN) tyB
      rw [htB] at this
      simpa [npeCell, preparedCellV, Cell.setSlot, Cell.withEntry, Array.getElem?_setIfInBounds, bC, bS, bP, bX, bC.symm, bS.symm, bP.symm, bX.symm, defaultValue] using this, fun _ _ => rfl⟩
  have hv0 : (freshCell N.cN kX).slots[N.fState.slot]? = some (.int 0) := by
    have := fresh_default (c := N.cN) tyX
    rw [LN.stateInt] at this
    exact this
  obtain ⟨tm, methC, cdC, kC, vm₂, hnC, -, -, -, -, -, -, -, hW₁, st2⟩ := Steps.initColdS (tb := p.tables) (e := e) (below := below) (s := s) (U := W) X.here hexec X.warmed hpl hown (t := Bundle.initS Bundle.nN) rfl rfl (by decide)
    (a' (.methodLink own ic (Bundle.initS Bundle.nN)) (by simp [xn_at])) (hat (.instanceMethod (Bundle.initS Bundle.nN)) (by simp [xn_at, Bundle.chainSAtoms, Bundle.passSAtoms])) (bytes := Bundle.six) (maxL := 2) (hat (.code (Bundle.initS Bundle.nN) Bundle.six 2 none) (by simp [xn_at, Bundle.chainSAtoms, Bundle.passSAtoms]))
    (f := { method := m, pc := pc + 6, locals := ls, stack := .ref sa :: .ref a :: .ref a :: rest, locked := none }) rfl (a := a) (msg := .ref sa) (rest := .ref a :: rest) rfl d6
  cases Option.some.inj (hnC.symm.trans hP1m)
  have X₁ := X.noted hW₁
  obtain ⟨vm₃, X₂, st3⟩ := xn_chain X₁ hexec (g := { method := m, pc := pc + 6, locals := ls, stack := .ref a :: rest, locked := none }) rfl hsize T L Z LZ M LM N LN htr (P1 :: Ps)
    (fun P hP => by rcases List.mem_cons.mp hP with rfl | hP; exact L1; exact hL P hP) ⟨hlink1, hlink⟩ (u0 := u0) (sen := sen) (self := a) (msg := .ref sa) rfl (cell := freshCell N.cN kX) (cellS := cellS) (kcell := kX)
    hcell (fun _ => by simp) (by simp) rfl rfl hk hsel0 hselF hcellS hneS hknownS (by rw [hkeep _ (fun z => nomatch z)]; exact hu0) (by rw [hkeep _ (fun z => nomatch z)]; exact hsen) hv0 nCX nSX nPX
    (Takes.of_laid hk hord tyC (by rw [Y.causeType]; rfl)) (Takes.of_laid hk hord tyS (by rw [Y.stackType]; exact fits_refV_array _ u0)) (Takes.of_laid hk hord tyP (by rw [Y.suppType]; exact fits_refV_object _ sen))
    (Takes.of_laid hk hord tyM (by rw [Y.msgType]; rfl)) (Takes.of_laid hk hord tyX (by rw [LN.stateInt]; rfl)) Y.objLocals hskip [] d6
    (by simp only [List.length_cons, hlen, List.length_nil]; omega) (by simp only [List.length_cons, hlen, List.length_nil, List.map_cons, List.sum_cons, hcat]; show 2 * 0 + _ + _ ≤ _; omega)
  obtain ⟨hwalk, hrun, hended, hWU, hsame⟩ := X₂.athrowLeaves hexec (g := { method := m, pc := pc + 9, locals := ls, stack := .ref a :: rest, locked := none }) rfl rfl rfl (by rw [hout]; intro z hz; cases hz) (a := a) (rest := rest) rfl d9
  have hlt : a < ((W.setVm vm₂).setVm vm₃).heap.size := (Array.getElem?_eq_some_iff.mp hcell).1
  have hU := heapAt_setCell_self (s := (W.setVm vm₂).setVm vm₃) ((npeBareV T.toThrowableT N.toNpeT (freshCell N.cN kX) a u0 sen).setSlot T.fMsg.slot (.ref sa)) hlt
  have hsame' := hsame.weaken (l' := []) (fun y hy hlt' => by
    exfalso
    have hb : y.base = a := by
      simp only [List.nil_append, List.mem_cons, List.not_mem_nil, or_false] at hy
      rcases hy with rfl | rfl | rfl | rfl | rfl | rfl <;> rfl
    rw [hb] at hlt'
    exact Nat.not_lt.mpr hnew hlt') (Nat.le_refl _) (Nat.le_refl _)
  refine ⟨_, st1 _ ?_, .threw a, hrun, hended, a, _, rfl, hU, rfl, hfound, hWU, hsame'.mono hc hs⟩
  show Steps p.tables e below (W.setTop { method := m, pc := pc + 3, locals := ls, stack := .ref a :: rest, locked := none }) _
  jvm_step X.here [X.here.top, hexec, d3, Value.category]
  refine X.ldcString hexec (own := own) (text := text) (index := is) (a := sa) hown hstr hev (g := { method := m, pc := pc + 4, locals := ls, stack := .ref a :: .ref a :: rest, locked := none }) rfl d4 _ ?_
  exact st2 _ (fun acts => by rw [doInvoke_state]; exact st3 _ hwalk)
end XNS
end
section
/-! Reading: the getters of the rows, the grid and the boxes. -/
section XGA
variable {p : Program} {l : Launch} {e : Env} {R : Room} {s : State} {m : MethodId} {args : Array Value} {below : List Frame} {meth : Method} {c : Code} {H : Heap} {locs : List Loc} {cells slots : Nat} {Q : State → Prop}
variable {pc : Nat} {ls : Array Slot} {rest st0 : List Value} {a : Array Value}
theorem xr_1 {v : Value} (hr : va_Run p l e R s m args below meth c H locs cells slots 0 0 (F0 m pc ls st0) rest (xR (some v) a) (fun _ => False)) (kk : W p l e R s m args below meth c H locs cells slots Q (F0 m (pc + 3) ls (v :: rest))) : W p l e R s m args below meth c H locs cells slots Q (F0 m pc ls st0) := xr_of hr kk
theorem xr_0 (hr : va_Run p l e R s m args below meth c H locs cells slots 0 0 (F0 m pc ls st0) rest (xR none a) (fun _ => False)) (kk : W p l e R s m args below meth c H locs cells slots Q (F0 m (pc + 3) ls rest)) : W p l e R s m args below meth c H locs cells slots Q (F0 m pc ls st0) := xr_of hr kk
/-- a row of an array of arrays -/
theorem xaldA {cc : ByteArray} {D : va_G} {cl : List vw_C} {tys : List (ClassId × FieldType)} {ws : va_W} {b : Nat} (hexec : p.tables.exec = Jvm.exec) (hb : c.code = cc) (hK : va_K D cl tys s) (hP : va_P D cl ws H) (q0 t0 : Nat) {cX : ClassId} {t : FieldType} {n : Nat} {f : Nat → Option Nat} (ha : ws[q0]? = some (b, .inl (cX, n, .inr (.inr (.inr (.inr f)))))) (ht : tys[t0]? = some (cX, .array t)) {i : Int32} (hin : vp_in i n) (hdg : decode cc pc = .ok (.aaload, 1))
    (kk : W p l e R s m args below meth c H locs cells slots Q (F0 m (pc + 1) ls (va_rf (f i.toNatClampNeg) :: rest))) : W p l e R s m args below meth c H locs cells slots Q (F0 m pc ls (.int i :: .ref b :: rest)) := by
  have hlt : i.toNatClampNeg < n := Nat.not_le.mp fun q => hin (Or.inr q)
  exact W.aald (v := va_rf (f i.toNatClampNeg)) (ty := .array t) hexec hb (hP q0 _ ha) ((hK.2 t0 _ ht).1 n (fun j => va_rf (f j))) rfl (fun q => by cases q) (by show ¬ (i < 0 ∨ (arrV _ _ _).slots.size ≤ _); rw [arrV_size]; exact hin) (by show (arrV _ _ _).slots[_]? = _; rw [arrV_read _ _ hlt]) rfl rfl hdg kk
end XGA
/-- a loop that counts up to N -/
theorem xloop {σ : Type} (I : Nat → σ → Prop) (Wk : σ → Prop) (N : Nat) (step : ∀ (i : Nat) (z : σ), i < N → I i z → (∀ z', I (i + 1) z' → Wk z') → Wk z) (done : ∀ z, I N z → Wk z) (z : σ) (h0 : I 0 z) : Wk z := by
  have key : ∀ (k i : Nat) (z : σ), i + k = N → I i z → Wk z := by
    intro k
    induction k with
    | zero => intro i z h1 h2; rw [Nat.add_zero] at h1; subst h1; exact done z h2
    | succ k ih => intro i z h1 h2; exact step i z (by omega) h2 (fun z' h3 => ih (i + 1) z' (by omega) h3)
  exact key N 0 z (by omega) h0
theorem xz01 {z : Int32} (h : z = 0 ∨ z = 1) : narrow .boolean (.int z) = .int z := by rcases h with rfl | rfl <;> rfl
theorem xf01 {z : Int32} (h : z = 0 ∨ z = 1) : fits .boolean (.int z) = true := by rcases h with rfl | rfl <;> rfl
set_option maxRecDepth 100000 in
theorem xo_140 {l : Launch} {s0 : State} {a0 : Array Value} {dC : Nat → ClassId} {dI : Nat → Nat → Nat} {cA : Nat → ClassId} {s : State} {args : Array Value} (h : xC l s0 a0 dC dI cA) (hb : xb s0 s) : ∀ w ∈ xn_at RX5 140, w.before args s = true := by
  have hr : ∀ w ∈ (xn_at RX5 140).filter (fun w => !decide (w = Cond.castable Bundle.rN Bundle.tN)), w.before args s = true := h.all hb _ (by decide +kernel)
  intro w hw
  by_cases he : w = Cond.castable Bundle.rN Bundle.tN
  · rw [he]
    exact xn_cast (hr _ (by decide +kernel)) (hr _ (by decide +kernel)) (hr _ (by decide +kernel))
  · exact hr w (List.mem_filter.mpr ⟨hw, by simp [he]⟩)
set_option maxRecDepth 100000 in
theorem xNoDisc {l : Launch} {s0 : State} {a0 : Array Value} {dC : Nat → ClassId} {dI : Nat → Nat → Nat} {cA : Nat → ClassId} {s : State} (h : xC l s0 a0 dC dI cA) (hb : xb s0 s) : va_Nc RX0 RX2 s := h.nc hb (by decide +kernel)
/-! What the rows' cells hold where the int g k i was put last at place i of the row of kind k. -/
def r0 (g : Nat → Nat → Int32) : Nat → Int32 := fun i => g 0 i
def r1 (g : Nat → Nat → Int32) : Nat → Int64 := fun i => (g 1 i).toInt64
def r2 (g : Nat → Nat → Int32) : Nat → Int32 := fun i => (g 2 i).toInt16.toInt32
def r3 (g : Nat → Nat → Int32) : Nat → Int32 := fun i => (g 3 i).toInt8.toInt32
def r4 (g : Nat → Nat → Int32) : Nat → Int32 := fun i => ((g 4 i).toUInt32 % 65536).toInt32
def r5 (g : Nat → Nat → Int32) : Nat → Int32 := fun i => if g 5 i = 0 then 0 else 1
def r6 (g : Nat → Nat → Int32) := fun i : Nat => FP.i2f (g 6 i)
def r7 (g : Nat → Nat → Int32) := fun i : Nat => FP.i2d (g 7 i)
/-- the number that the row of kind k keeps of v -/
def rd (k : Nat) (v : Int32) : Int64 := match k with
  | 0 => v.toInt64
  | 1 => v.toInt64
  | 2 => v.toInt16.toInt32.toInt64
  | 3 => v.toInt8.toInt32.toInt64
  | 4 => (v.toUInt32 % 65536).toInt32.toInt64
  | 5 => if v = 0 then 0 else 1
  | 6 => FP.f2l (FP.i2f v)
  | _ => FP.d2l (FP.i2d v)
set_option maxHeartbeats 4000000 in
set_option maxRecDepth 100000 in
theorem c_needThere {l : Launch} {s0 : State} {a0 : Array Value} {dC : Nat → ClassId} {dI : Nat → Nat → Nat} {cA : Nat → ClassId} (h : xC l s0 a0 dC dI cA) (p0 : Int32) (hc : ¬ p0 = 0) : Met l yX5_needThere [Cond.code yX5_needThere cX5_needThere 1 none] ({ frames := 0, cells := 0, slots := 0, locals := 0 } : Room) (xP s0 (dC, dI) [.int p0] []) (xR none) 0 0 (fun _ => False) := by
  refine Met.ofW (cc := cX5_needThere) (maxL := 1) (ret := none) (by decide) rfl ?_
  intro p e s m args below meth c s₁ B hml hv
  obtain ⟨rfl, hb0, hP⟩ := hv
  have hx := B.exec
  have hb := B.bytes
  have hr := B.returns
  have hown : s.vm.findClass RX5 = some m.cls := findClass_of_methodNamed B.named
  have hlocks := B.notSynchronized
  have hK := h.K hb0
  have hS : va_S (fun _ : Nat => False) s.heap s.heap [] := va_S.rf
  have hz : ∀ q : Nat, (fun _ : Nat => False) q → s0.heap.size ≤ q := fun _ z => z.elim
  have hl := lv_entry ([.int p0]) (n := 1) (Nat.le_of_ble_eq_true rfl)
  rw [lg_entry_eq]
  generalize (lg_sl ([.int p0]) ++ List.replicate (1 - (lg_sl ([.int p0])).length) Slot.unset).toArray = ls at hl ⊢
  have hl : lv_has ls 1 [(0, .int p0)] := hl
  refine lv_iload_n hx hb dX5_needThere_0 rfl (lv_at hl 0 rfl) ?_
  refine lv_if_ne (tgt := 14) hx hb dX5_needThere_1 (by decide) (fun c_1 => ?_) (fun c_1 => ?_)
  · exact W.vret hx hb hr (fun t ht _ => ⟨rfl, ht⟩) (fun q z => nomatch z) dX5_needThere_14
  · exact absurd c_1 hc
set_option maxHeartbeats 4000000 in
set_option maxRecDepth 100000 in
theorem t_needThere {l : Launch} {s0 : State} {a0 : Array Value} {dC : Nat → ClassId} {dI : Nat → Nat → Nat} {cA : Nat → ClassId} (h : xC l s0 a0 dC dI cA) (p0 : Int32) (hc : p0 = 0) : xt_Met l yX5_needThere [Cond.code yX5_needThere cX5_needThere 1 none] ({ frames := 7, cells := 1, slots := 8, locals := 110 } : Room) (xP s0 (dC, dI) [.int p0] []) "java/lang/NullPointerException" 1 8 := by
  refine xt_ofW (cc := cX5_needThere) (maxL := 1) (ret := none) (by decide) rfl ?_
  intro p e s m args below meth c s₁ B hml hout hv
  obtain ⟨rfl, hb0, hP⟩ := hv
  have hx := B.exec
  have hb := B.bytes
  have hr := B.returns
  have hown : s.vm.findClass RX5 = some m.cls := findClass_of_methodNamed B.named
  have hlocks := B.notSynchronized
  have hK := h.K hb0
  have hS : va_S (fun _ : Nat => False) s.heap s.heap [] := va_S.rf
  have hz : ∀ q : Nat, (fun _ : Nat => False) q → s0.heap.size ≤ q := fun _ z => z.elim
  have hl := lv_entry ([.int p0]) (n := 1) (Nat.le_of_ble_eq_true rfl)
  rw [lg_entry_eq]
  generalize (lg_sl ([.int p0]) ++ List.replicate (1 - (lg_sl ([.int p0])).length) Slot.unset).toArray = ls at hl ⊢
  have hl : lv_has ls 1 [(0, .int p0)] := hl
  refine lv_iload_n hx hb dX5_needThere_0 rfl (lv_at hl 0 rfl) ?_
  refine lv_if_ne (tgt := 14) hx hb dX5_needThere_1 (by decide) (fun c_1 => ?_) (fun c_1 => ?_)
  · exact absurd hc c_1
  · exact xt_throwN (own := RX5) hx hb h.1 hown (k_141 h hb0) (k_9 h hb0) (k_194 h hb0) (xo_140 h hb0) (hl.1.trans hml.symm) hout hlocks dX5_needThere_4 dX5_needThere_7 dX5_needThere_8 dX5_needThere_10 dX5_needThere_13 (by decide) (by decide) (by decide) (by decide) (by decide) (by decide)
set_option maxHeartbeats 4000000 in
set_option maxRecDepth 100000 in
theorem c_cellCount {l : Launch} {s0 : State} {a0 : Array Value} {dC : Nat → ClassId} {dI : Nat → Nat → Nat} {cA : Nat → ClassId} (h : xC l s0 a0 dC dI cA) (ro b0 b1 b2 b3 b4 b5 b6 b7 b8 : Nat) (n : Nat → Int32) (g : Nat → Nat → Int32) (x : Int32) (hi : vp_in x 8) : Met l yX4_cellCount [Cond.code yX4_cellCount cX4_cellCount 2 (some .int)] ({ frames := 0, cells := 0, slots := 0, locals := 0 } : Room) (xP s0 (dC, dI) [.ref ro, .int x] [(ro, .inr (4, [.ref b0, .ref b1, .ref b2, .ref b3, .ref b4, .ref b5, .ref b6, .ref b7, .ref b8])), (b0, .inl (cA 0, 8, .inl n))]) (xR (some (.int (n x.toNatClampNeg)))) 0 0 (fun _ => False) := by
  refine Met.ofW (cc := cX4_cellCount) (maxL := 2) (ret := (some .int)) (by decide) rfl ?_
  intro p e s m args below meth c s₁ B hml hv
  obtain ⟨rfl, hb0, hP⟩ := hv
  have hx := B.exec
  have hb := B.bytes
  have hr := B.returns
  have hown : s.vm.findClass RX4 = some m.cls := findClass_of_methodNamed B.named
  have hlocks := B.notSynchronized
  have hK := h.K hb0
  have hS : va_S (fun _ : Nat => False) s.heap s.heap [] := va_S.rf
  have hz : ∀ q : Nat, (fun _ : Nat => False) q → s0.heap.size ≤ q := fun _ z => z.elim
  have hl := lv_entry ([.ref ro, .int x]) (n := 2) (Nat.le_of_ble_eq_true rfl)
  rw [lg_entry_eq]
  generalize (lg_sl ([.ref ro, .int x]) ++ List.replicate (2 - (lg_sl ([.ref ro, .int x])).length) Slot.unset).toArray = ls at hl ⊢
  have hl : lv_has ls 2 [(0, .ref ro), (1, .int x)] := hl
  refine lv_aload_n hx hb dX4_cellCount_0 rfl (lv_at hl 0 rfl) ?_
  refine va_get (D := (dC, dI)) (ci := 4) (v := .ref b0) (C := RX4) (T := TX4) (N := 9) hx hb (ly_4 h hb0) (fun _ z => z) hown hK hP 0 rfl rfl 0 (by decide) (k_32 h hb0) (fun _ z => z) rfl dX4_cellCount_1 ?_
  refine lv_iload_n hx hb dX4_cellCount_4 rfl (lv_at hl 1 rfl) ?_
  refine va_iald hx hb hK hP 1 0 rfl rfl hi dX4_cellCount_5 ?_
  exact W.iret hx hb hr (fun t ht _ => ⟨rfl, ht⟩) (fun q z => nomatch z) dX4_cellCount_6
set_option maxHeartbeats 4000000 in
set_option maxRecDepth 100000 in
theorem c_numberAt {l : Launch} {s0 : State} {a0 : Array Value} {dC : Nat → ClassId} {dI : Nat → Nat → Nat} {cA : Nat → ClassId} (h : xC l s0 a0 dC dI cA) (ro b0 b1 b2 b3 b4 b5 b6 b7 b8 : Nat) (n : Nat → Int32) (g : Nat → Nat → Int32) (K : Nat) (x : Int32) (hK8 : K < 8) (hi : vp_in x 39) : Met l yX4_numberAt [Cond.code yX4_numberAt cX4_numberAt 3 (some .long)] ({ frames := 0, cells := 0, slots := 0, locals := 0 } : Room) (xP s0 (dC, dI) [.ref ro, .int (nI K), .int x] [(ro, .inr (4, [.ref b0, .ref b1, .ref b2, .ref b3, .ref b4, .ref b5, .ref b6, .ref b7, .ref b8])), (b1, .inl (cA 0, 39, .inl (r0 g))), (b2, .inl (cA 1, 39, .inr (.inl (r1 g)))), (b3, .inl (cA 2, 39, .inl (r2 g))), (b4, .inl (cA 3, 39, .inl (r3 g))), (b5, .inl (cA 4, 39, .inl (r4 g))), (b6, .inl (cA 5, 39, .inl (r5 g))), (b7, .inl (cA 6, 39, .inr (.inr (.inl (r6 g))))), (b8, .inl (cA 7, 39, .inr (.inr (.inr (.inl (r7 g))))))]) (xR (some (.long (rd K (g K x.toNatClampNeg))))) 0 0 (fun _ => False) := by
  refine Met.ofW (cc := cX4_numberAt) (maxL := 3) (ret := (some .long)) (by decide) rfl ?_
  intro p e s m args below meth c s₁ B hml hv
  obtain ⟨rfl, hb0, hP⟩ := hv
  have hx := B.exec
  have hb := B.bytes
  have hr := B.returns
  have hown : s.vm.findClass RX4 = some m.cls := findClass_of_methodNamed B.named
  have hlocks := B.notSynchronized
  have hK := h.K hb0
  have hS : va_S (fun _ : Nat => False) s.heap s.heap [] := va_S.rf
  have hz : ∀ q : Nat, (fun _ : Nat => False) q → s0.heap.size ≤ q := fun _ z => z.elim
  have hl := lv_entry ([.ref ro, .int (nI K), .int x]) (n := 3) (Nat.le_of_ble_eq_true rfl)
  rw [lg_entry_eq]
  generalize (lg_sl ([.ref ro, .int (nI K), .int x]) ++ List.replicate (3 - (lg_sl ([.ref ro, .int (nI K), .int x])).length) Slot.unset).toArray = ls at hl ⊢
  have hl : lv_has ls 3 [(0, .ref ro), (1, .int (nI K)), (2, .int x)] := hl
  refine lv_iload_n hx hb dX4_numberAt_0 rfl (lv_at hl 1 rfl) ?_
  have hk : K = 0 ∨ K = 1 ∨ K = 2 ∨ K = 3 ∨ K = 4 ∨ K = 5 ∨ K = 6 ∨ K = 7 := by omega
  rcases hk with rfl | rfl | rfl | rfl | rfl | rfl | rfl | rfl
  · refine lv_tableIn (off := 43) (tgt := 44) hx hb dX4_numberAt_1 (by decide) (by decide) (by decide) (by decide) ?_
    refine lv_aload_n hx hb dX4_numberAt_44 rfl (lv_at hl 0 rfl) ?_
    refine va_get (D := (dC, dI)) (ci := 4) (v := .ref b1) (C := RX4) (T := TX4) (N := 9) hx hb (ly_4 h hb0) (fun _ z => z) hown hK hP 0 rfl rfl 1 (by decide) (k_33 h hb0) (fun _ z => z) rfl dX4_numberAt_45 ?_
    refine lv_iload_n hx hb dX4_numberAt_48 rfl (lv_at hl 2 rfl) ?_
    refine va_iald hx hb hK hP 1 0 rfl rfl hi dX4_numberAt_49 ?_
    refine lv_i2l hx hb dX4_numberAt_50 rfl ?_
    refine lv_goto (tgt := 127) hx hb dX4_numberAt_51 (by decide) ?_
    exact W.lret hx hb hr (fun t ht _ => ⟨rfl, ht⟩) (fun q z => nomatch z) dX4_numberAt_127
  · refine lv_tableIn (off := 53) (tgt := 54) hx hb dX4_numberAt_1 (by decide) (by decide) (by decide) (by decide) ?_
    refine lv_aload_n hx hb dX4_numberAt_54 rfl (lv_at hl 0 rfl) ?_
    refine va_get (D := (dC, dI)) (ci := 4) (v := .ref b2) (C := RX4) (T := TX4) (N := 9) hx hb (ly_4 h hb0) (fun _ z => z) hown hK hP 0 rfl rfl 2 (by decide) (k_34 h hb0) (fun _ z => z) rfl dX4_numberAt_55 ?_
    refine lv_iload_n hx hb dX4_numberAt_58 rfl (lv_at hl 2 rfl) ?_
    refine va_lald hx hb hK hP 2 1 rfl rfl hi dX4_numberAt_59 ?_
    refine lv_goto (tgt := 127) hx hb dX4_numberAt_60 (by decide) ?_
    exact W.lret hx hb hr (fun t ht _ => ⟨rfl, ht⟩) (fun q z => nomatch z) dX4_numberAt_127
  · refine lv_tableIn (off := 62) (tgt := 63) hx hb dX4_numberAt_1 (by decide) (by decide) (by decide) (by decide) ?_
    refine lv_aload_n hx hb dX4_numberAt_63 rfl (lv_at hl 0 rfl) ?_
    refine va_get (D := (dC, dI)) (ci := 4) (v := .ref b3) (C := RX4) (T := TX4) (N := 9) hx hb (ly_4 h hb0) (fun _ z => z) hown hK hP 0 rfl rfl 3 (by decide) (k_35 h hb0) (fun _ z => z) rfl dX4_numberAt_64 ?_
    refine lv_iload_n hx hb dX4_numberAt_67 rfl (lv_at hl 2 rfl) ?_
    refine va_sald hx hb hK hP 3 2 rfl rfl hi dX4_numberAt_68 ?_
    refine lv_i2l hx hb dX4_numberAt_69 rfl ?_
    refine lv_goto (tgt := 127) hx hb dX4_numberAt_70 (by decide) ?_
    exact W.lret hx hb hr (fun t ht _ => ⟨rfl, ht⟩) (fun q z => nomatch z) dX4_numberAt_127
  · refine lv_tableIn (off := 72) (tgt := 73) hx hb dX4_numberAt_1 (by decide) (by decide) (by decide) (by decide) ?_
    refine lv_aload_n hx hb dX4_numberAt_73 rfl (lv_at hl 0 rfl) ?_
    refine va_get (D := (dC, dI)) (ci := 4) (v := .ref b4) (C := RX4) (T := TX4) (N := 9) hx hb (ly_4 h hb0) (fun _ z => z) hown hK hP 0 rfl rfl 4 (by decide) (k_36 h hb0) (fun _ z => z) rfl dX4_numberAt_74 ?_
    refine lv_iload_n hx hb dX4_numberAt_77 rfl (lv_at hl 2 rfl) ?_
    refine va_bald hx hb hK hP 4 3 rfl rfl hi dX4_numberAt_78 ?_
    refine lv_i2l hx hb dX4_numberAt_79 rfl ?_
    refine lv_goto (tgt := 127) hx hb dX4_numberAt_80 (by decide) ?_
    exact W.lret hx hb hr (fun t ht _ => ⟨rfl, ht⟩) (fun q z => nomatch z) dX4_numberAt_127
  · refine lv_tableIn (off := 82) (tgt := 83) hx hb dX4_numberAt_1 (by decide) (by decide) (by decide) (by decide) ?_
    refine lv_aload_n hx hb dX4_numberAt_83 rfl (lv_at hl 0 rfl) ?_
    refine va_get (D := (dC, dI)) (ci := 4) (v := .ref b5) (C := RX4) (T := TX4) (N := 9) hx hb (ly_4 h hb0) (fun _ z => z) hown hK hP 0 rfl rfl 5 (by decide) (k_37 h hb0) (fun _ z => z) rfl dX4_numberAt_84 ?_
    refine lv_iload_n hx hb dX4_numberAt_87 rfl (lv_at hl 2 rfl) ?_
    refine va_cald hx hb hK hP 5 4 rfl rfl hi dX4_numberAt_88 ?_
    refine lv_i2l hx hb dX4_numberAt_89 rfl ?_
    refine lv_goto (tgt := 127) hx hb dX4_numberAt_90 (by decide) ?_
    exact W.lret hx hb hr (fun t ht _ => ⟨rfl, ht⟩) (fun q z => nomatch z) dX4_numberAt_127
  · refine lv_tableIn (off := 92) (tgt := 93) hx hb dX4_numberAt_1 (by decide) (by decide) (by decide) (by decide) ?_
    refine lv_aload_n hx hb dX4_numberAt_93 rfl (lv_at hl 0 rfl) ?_
    refine va_get (D := (dC, dI)) (ci := 4) (v := .ref b6) (C := RX4) (T := TX4) (N := 9) hx hb (ly_4 h hb0) (fun _ z => z) hown hK hP 0 rfl rfl 6 (by decide) (k_38 h hb0) (fun _ z => z) rfl dX4_numberAt_94 ?_
    refine lv_iload_n hx hb dX4_numberAt_97 rfl (lv_at hl 2 rfl) ?_
    refine va_zald hx hb hK hP 6 5 rfl rfl hi dX4_numberAt_98 ?_
    refine lv_if_eq (tgt := 106) hx hb dX4_numberAt_99 (by decide) (fun c_1 => ?_) (fun c_1 => ?_)
    · refine lv_lconst (v := 0) hx hb dX4_numberAt_106 (by decide) ?_
      refine lv_goto (tgt := 127) hx hb dX4_numberAt_107 (by decide) ?_
      rw [show (0 : Int64) = rd 5 (g 5 x.toNatClampNeg) by have c_1 : (if g 5 x.toNatClampNeg = 0 then (0 : Int32) else 1) = 0 := c_1; by_cases q : g 5 x.toNatClampNeg = 0 <;> simp_all [rd]]
      exact W.lret hx hb hr (fun t ht _ => ⟨rfl, ht⟩) (fun q z => nomatch z) dX4_numberAt_127
    · refine lv_lconst (v := 1) hx hb dX4_numberAt_102 (by decide) ?_
      refine lv_goto (tgt := 127) hx hb dX4_numberAt_103 (by decide) ?_
      rw [show (1 : Int64) = rd 5 (g 5 x.toNatClampNeg) by have c_1 : ¬ (if g 5 x.toNatClampNeg = 0 then (0 : Int32) else 1) = 0 := c_1; by_cases q : g 5 x.toNatClampNeg = 0 <;> simp_all [rd]]
      exact W.lret hx hb hr (fun t ht _ => ⟨rfl, ht⟩) (fun q z => nomatch z) dX4_numberAt_127
  · refine lv_tableIn (off := 109) (tgt := 110) hx hb dX4_numberAt_1 (by decide) (by decide) (by decide) (by decide) ?_
    refine lv_aload_n hx hb dX4_numberAt_110 rfl (lv_at hl 0 rfl) ?_
    refine va_get (D := (dC, dI)) (ci := 4) (v := .ref b7) (C := RX4) (T := TX4) (N := 9) hx hb (ly_4 h hb0) (fun _ z => z) hown hK hP 0 rfl rfl 7 (by decide) (k_39 h hb0) (fun _ z => z) rfl dX4_numberAt_111 ?_
    refine lv_iload_n hx hb dX4_numberAt_114 rfl (lv_at hl 2 rfl) ?_
    refine va_fald hx hb hK hP 7 6 rfl rfl hi dX4_numberAt_115 ?_
    refine lv_f2l hx hb dX4_numberAt_116 ?_
    refine lv_goto (tgt := 127) hx hb dX4_numberAt_117 (by decide) ?_
    exact W.lret hx hb hr (fun t ht _ => ⟨rfl, ht⟩) (fun q z => nomatch z) dX4_numberAt_127
  · refine lv_tableOut (tgt := 120) hx hb dX4_numberAt_1 (by decide) (by decide) ?_
    refine lv_aload_n hx hb dX4_numberAt_120 rfl (lv_at hl 0 rfl) ?_
    refine va_get (D := (dC, dI)) (ci := 4) (v := .ref b8) (C := RX4) (T := TX4) (N := 9) hx hb (ly_4 h hb0) (fun _ z => z) hown hK hP 0 rfl rfl 8 (by decide) (k_40 h hb0) (fun _ z => z) rfl dX4_numberAt_121 ?_
    refine lv_iload_n hx hb dX4_numberAt_124 rfl (lv_at hl 2 rfl) ?_
    refine va_dald hx hb hK hP 8 7 rfl rfl hi dX4_numberAt_125 ?_
    refine lv_d2l hx hb dX4_numberAt_126 ?_
    exact W.lret hx hb hr (fun t ht _ => ⟨rfl, ht⟩) (fun q z => nomatch z) dX4_numberAt_127
set_option maxHeartbeats 4000000 in
set_option maxRecDepth 100000 in
theorem c_gisMade {l : Launch} {s0 : State} {a0 : Array Value} {dC : Nat → ClassId} {dI : Nat → Nat → Nat} {cA : Nat → ClassId} (h : xC l s0 a0 dC dI cA) (gr gc : Nat) (z1 z2 z3 : Int32) (h01 : z1 = 0 ∨ z1 = 1) : Met l yX3_isMade [Cond.code yX3_isMade cX3_isMade 1 (some .boolean)] ({ frames := 0, cells := 0, slots := 0, locals := 0 } : Room) (xP s0 (dC, dI) [.ref gr] [(gr, .inr (3, [.ref gc, .int z1, .int z2, .int z3]))]) (xR (some (.int z1))) 0 0 (fun _ => False) := by
  refine Met.ofW (cc := cX3_isMade) (maxL := 1) (ret := (some .boolean)) (by decide) rfl ?_
  intro p e s m args below meth c s₁ B hml hv
  obtain ⟨rfl, hb0, hP⟩ := hv
  have hx := B.exec
  have hb := B.bytes
  have hr := B.returns
  have hown : s.vm.findClass RX3 = some m.cls := findClass_of_methodNamed B.named
  have hlocks := B.notSynchronized
  have hK := h.K hb0
  have hS : va_S (fun _ : Nat => False) s.heap s.heap [] := va_S.rf
  have hz : ∀ q : Nat, (fun _ : Nat => False) q → s0.heap.size ≤ q := fun _ z => z.elim
  have hl := lv_entry ([.ref gr]) (n := 1) (Nat.le_of_ble_eq_true rfl)
  rw [lg_entry_eq]
  generalize (lg_sl ([.ref gr]) ++ List.replicate (1 - (lg_sl ([.ref gr])).length) Slot.unset).toArray = ls at hl ⊢
  have hl : lv_has ls 1 [(0, .ref gr)] := hl
  refine lv_aload_n hx hb dX3_isMade_0 rfl (lv_at hl 0 rfl) ?_
  refine va_get (D := (dC, dI)) (ci := 3) (v := .int z1) (C := RX3) (T := TX3) (N := 4) hx hb (ly_3 h hb0) (fun _ z => z) hown hK hP 0 rfl rfl 1 (by decide) (k_77 h hb0) (fun _ z => z) rfl dX3_isMade_1 ?_
  exact W.zret hx hb hr (xz01 h01) (fun t ht _ => ⟨rfl, ht⟩) (fun q z => nomatch z) dX3_isMade_4
set_option maxHeartbeats 4000000 in
set_option maxRecDepth 100000 in
theorem c_growCount {l : Launch} {s0 : State} {a0 : Array Value} {dC : Nat → ClassId} {dI : Nat → Nat → Nat} {cA : Nat → ClassId} (h : xC l s0 a0 dC dI cA) (gr gc : Nat) (z1 z2 z3 : Int32)  : Met l yX3_rowCount [Cond.code yX3_rowCount cX3_rowCount 1 (some .int)] ({ frames := 0, cells := 0, slots := 0, locals := 0 } : Room) (xP s0 (dC, dI) [.ref gr] [(gr, .inr (3, [.ref gc, .int z1, .int z2, .int z3]))]) (xR (some (.int z2))) 0 0 (fun _ => False) := by
  refine Met.ofW (cc := cX3_rowCount) (maxL := 1) (ret := (some .int)) (by decide) rfl ?_
  intro p e s m args below meth c s₁ B hml hv
  obtain ⟨rfl, hb0, hP⟩ := hv
  have hx := B.exec
  have hb := B.bytes
  have hr := B.returns
  have hown : s.vm.findClass RX3 = some m.cls := findClass_of_methodNamed B.named
  have hlocks := B.notSynchronized
  have hK := h.K hb0
  have hS : va_S (fun _ : Nat => False) s.heap s.heap [] := va_S.rf
  have hz : ∀ q : Nat, (fun _ : Nat => False) q → s0.heap.size ≤ q := fun _ z => z.elim
  have hl := lv_entry ([.ref gr]) (n := 1) (Nat.le_of_ble_eq_true rfl)
  rw [lg_entry_eq]
  generalize (lg_sl ([.ref gr]) ++ List.replicate (1 - (lg_sl ([.ref gr])).length) Slot.unset).toArray = ls at hl ⊢
  have hl : lv_has ls 1 [(0, .ref gr)] := hl
  refine lv_aload_n hx hb dX3_rowCount_0 rfl (lv_at hl 0 rfl) ?_
  refine va_get (D := (dC, dI)) (ci := 3) (v := .int z2) (C := RX3) (T := TX3) (N := 4) hx hb (ly_3 h hb0) (fun _ z => z) hown hK hP 0 rfl rfl 2 (by decide) (k_78 h hb0) (fun _ z => z) rfl dX3_rowCount_1 ?_
  exact W.iret hx hb hr (fun t ht _ => ⟨rfl, ht⟩) (fun q z => nomatch z) dX3_rowCount_4
set_option maxHeartbeats 4000000 in
set_option maxRecDepth 100000 in
theorem c_gcolumnCount {l : Launch} {s0 : State} {a0 : Array Value} {dC : Nat → ClassId} {dI : Nat → Nat → Nat} {cA : Nat → ClassId} (h : xC l s0 a0 dC dI cA) (gr gc : Nat) (z1 z2 z3 : Int32)  : Met l yX3_columnCount [Cond.code yX3_columnCount cX3_columnCount 1 (some .int)] ({ frames := 0, cells := 0, slots := 0, locals := 0 } : Room) (xP s0 (dC, dI) [.ref gr] [(gr, .inr (3, [.ref gc, .int z1, .int z2, .int z3]))]) (xR (some (.int z3))) 0 0 (fun _ => False) := by
  refine Met.ofW (cc := cX3_columnCount) (maxL := 1) (ret := (some .int)) (by decide) rfl ?_
  intro p e s m args below meth c s₁ B hml hv
  obtain ⟨rfl, hb0, hP⟩ := hv
  have hx := B.exec
  have hb := B.bytes
  have hr := B.returns
  have hown : s.vm.findClass RX3 = some m.cls := findClass_of_methodNamed B.named
  have hlocks := B.notSynchronized
  have hK := h.K hb0
  have hS : va_S (fun _ : Nat => False) s.heap s.heap [] := va_S.rf
  have hz : ∀ q : Nat, (fun _ : Nat => False) q → s0.heap.size ≤ q := fun _ z => z.elim
  have hl := lv_entry ([.ref gr]) (n := 1) (Nat.le_of_ble_eq_true rfl)
  rw [lg_entry_eq]
  generalize (lg_sl ([.ref gr]) ++ List.replicate (1 - (lg_sl ([.ref gr])).length) Slot.unset).toArray = ls at hl ⊢
  have hl : lv_has ls 1 [(0, .ref gr)] := hl
  refine lv_aload_n hx hb dX3_columnCount_0 rfl (lv_at hl 0 rfl) ?_
  refine va_get (D := (dC, dI)) (ci := 3) (v := .int z3) (C := RX3) (T := TX3) (N := 4) hx hb (ly_3 h hb0) (fun _ z => z) hown hK hP 0 rfl rfl 3 (by decide) (k_79 h hb0) (fun _ z => z) rfl dX3_columnCount_1 ?_
  exact W.iret hx hb hr (fun t ht _ => ⟨rfl, ht⟩) (fun q z => nomatch z) dX3_columnCount_4
set_option maxHeartbeats 4000000 in
set_option maxRecDepth 100000 in
theorem c_gnumberAt {l : Launch} {s0 : State} {a0 : Array Value} {dC : Nat → ClassId} {dI : Nat → Nat → Nat} {cA : Nat → ClassId} (h : xC l s0 a0 dC dI cA) (gr gc : Nat) (z1 z2 z3 : Int32) (ga : Nat → Nat) (gf : Nat → Int32) (I : Nat) (x : Int32) (hI : I < 8) (hi : vp_in x 8) : Met l yX3_numberAt [Cond.code yX3_numberAt cX3_numberAt 3 (some .int)] ({ frames := 0, cells := 0, slots := 0, locals := 0 } : Room) (xP s0 (dC, dI) [.ref gr, .int (nI I), .int x] [(gr, .inr (3, [.ref gc, .int z1, .int z2, .int z3])), (gc, .inl (cA 9, 8, .inr (.inr (.inr (.inr (fun i => some (ga i))))))), (ga I, .inl (cA 0, 8, .inl gf))]) (xR (some (.int (gf x.toNatClampNeg)))) 0 0 (fun _ => False) := by
  refine Met.ofW (cc := cX3_numberAt) (maxL := 3) (ret := (some .int)) (by decide) rfl ?_
  intro p e s m args below meth c s₁ B hml hv
  obtain ⟨rfl, hb0, hP⟩ := hv
  have hx := B.exec
  have hb := B.bytes
  have hr := B.returns
  have hown : s.vm.findClass RX3 = some m.cls := findClass_of_methodNamed B.named
  have hlocks := B.notSynchronized
  have hK := h.K hb0
  have hS : va_S (fun _ : Nat => False) s.heap s.heap [] := va_S.rf
  have hz : ∀ q : Nat, (fun _ : Nat => False) q → s0.heap.size ≤ q := fun _ z => z.elim
  have hl := lv_entry ([.ref gr, .int (nI I), .int x]) (n := 3) (Nat.le_of_ble_eq_true rfl)
  rw [lg_entry_eq]
  generalize (lg_sl ([.ref gr, .int (nI I), .int x]) ++ List.replicate (3 - (lg_sl ([.ref gr, .int (nI I), .int x])).length) Slot.unset).toArray = ls at hl ⊢
  have hl : lv_has ls 3 [(0, .ref gr), (1, .int (nI I)), (2, .int x)] := hl
  refine lv_aload_n hx hb dX3_numberAt_0 rfl (lv_at hl 0 rfl) ?_
  refine va_get (D := (dC, dI)) (ci := 3) (v := .ref gc) (C := RX3) (T := TX3) (N := 4) hx hb (ly_3 h hb0) (fun _ z => z) hown hK hP 0 rfl rfl 0 (by decide) (k_76 h hb0) (fun _ z => z) rfl dX3_numberAt_1 ?_
  refine lv_iload_n hx hb dX3_numberAt_4 rfl (lv_at hl 1 rfl) ?_
  refine xaldA hx hb hK hP 1 9 rfl rfl (vp_in_nI hI (by decide)) dX3_numberAt_5 ?_
  rw [nI_clamp (Nat.lt_trans hI (by decide))]
  show W _ _ _ _ _ _ _ _ _ _ _ _ _ _ _ (F0 m 6 ls [.ref (ga I)])
  refine lv_iload_n hx hb dX3_numberAt_6 rfl (lv_at hl 2 rfl) ?_
  refine va_iald hx hb hK hP 2 0 rfl rfl hi dX3_numberAt_7 ?_
  exact W.iret hx hb hr (fun t ht _ => ⟨rfl, ht⟩) (fun q z => nomatch z) dX3_numberAt_8
set_option maxHeartbeats 4000000 in
set_option maxRecDepth 100000 in
theorem c_bisMade {l : Launch} {s0 : State} {a0 : Array Value} {dC : Nat → ClassId} {dI : Nat → Nat → Nat} {cA : Nat → ClassId} (h : xC l s0 a0 dC dI cA) (br pl : Nat) (z1 z2 z3 : Int32) (h01 : z1 = 0 ∨ z1 = 1) : Met l yX1_isMade [Cond.code yX1_isMade cX1_isMade 1 (some .boolean)] ({ frames := 0, cells := 0, slots := 0, locals := 0 } : Room) (xP s0 (dC, dI) [.ref br] [(br, .inr (1, [.ref pl, .int z1, .int z2, .int z3]))]) (xR (some (.int z1))) 0 0 (fun _ => False) := by
  refine Met.ofW (cc := cX1_isMade) (maxL := 1) (ret := (some .boolean)) (by decide) rfl ?_
  intro p e s m args below meth c s₁ B hml hv
  obtain ⟨rfl, hb0, hP⟩ := hv
  have hx := B.exec
  have hb := B.bytes
  have hr := B.returns
  have hown : s.vm.findClass RX1 = some m.cls := findClass_of_methodNamed B.named
  have hlocks := B.notSynchronized
  have hK := h.K hb0
  have hS : va_S (fun _ : Nat => False) s.heap s.heap [] := va_S.rf
  have hz : ∀ q : Nat, (fun _ : Nat => False) q → s0.heap.size ≤ q := fun _ z => z.elim
  have hl := lv_entry ([.ref br]) (n := 1) (Nat.le_of_ble_eq_true rfl)
  rw [lg_entry_eq]
  generalize (lg_sl ([.ref br]) ++ List.replicate (1 - (lg_sl ([.ref br])).length) Slot.unset).toArray = ls at hl ⊢
  have hl : lv_has ls 1 [(0, .ref br)] := hl
  refine lv_aload_n hx hb dX1_isMade_0 rfl (lv_at hl 0 rfl) ?_
  refine va_get (D := (dC, dI)) (ci := 1) (v := .int z1) (C := RX1) (T := TX1) (N := 4) hx hb (ly_1 h hb0) (fun _ z => z) hown hK hP 0 rfl rfl 1 (by decide) (k_98 h hb0) (fun _ z => z) rfl dX1_isMade_1 ?_
  exact W.zret hx hb hr (xz01 h01) (fun t ht _ => ⟨rfl, ht⟩) (fun q z => nomatch z) dX1_isMade_4
set_option maxHeartbeats 4000000 in
set_option maxRecDepth 100000 in
theorem c_bplaceCount {l : Launch} {s0 : State} {a0 : Array Value} {dC : Nat → ClassId} {dI : Nat → Nat → Nat} {cA : Nat → ClassId} (h : xC l s0 a0 dC dI cA) (br pl : Nat) (z1 z2 z3 : Int32)  : Met l yX1_placeCount [Cond.code yX1_placeCount cX1_placeCount 1 (some .int)] ({ frames := 0, cells := 0, slots := 0, locals := 0 } : Room) (xP s0 (dC, dI) [.ref br] [(br, .inr (1, [.ref pl, .int z1, .int z2, .int z3]))]) (xR (some (.int z3))) 0 0 (fun _ => False) := by
  refine Met.ofW (cc := cX1_placeCount) (maxL := 1) (ret := (some .int)) (by decide) rfl ?_
  intro p e s m args below meth c s₁ B hml hv
  obtain ⟨rfl, hb0, hP⟩ := hv
  have hx := B.exec
  have hb := B.bytes
  have hr := B.returns
  have hown : s.vm.findClass RX1 = some m.cls := findClass_of_methodNamed B.named
  have hlocks := B.notSynchronized
  have hK := h.K hb0
  have hS : va_S (fun _ : Nat => False) s.heap s.heap [] := va_S.rf
  have hz : ∀ q : Nat, (fun _ : Nat => False) q → s0.heap.size ≤ q := fun _ z => z.elim
  have hl := lv_entry ([.ref br]) (n := 1) (Nat.le_of_ble_eq_true rfl)
  rw [lg_entry_eq]
  generalize (lg_sl ([.ref br]) ++ List.replicate (1 - (lg_sl ([.ref br])).length) Slot.unset).toArray = ls at hl ⊢
  have hl : lv_has ls 1 [(0, .ref br)] := hl
  refine lv_aload_n hx hb dX1_placeCount_0 rfl (lv_at hl 0 rfl) ?_
  refine va_get (D := (dC, dI)) (ci := 1) (v := .int z3) (C := RX1) (T := TX1) (N := 4) hx hb (ly_1 h hb0) (fun _ z => z) hown hK hP 0 rfl rfl 3 (by decide) (k_100 h hb0) (fun _ z => z) rfl dX1_placeCount_1 ?_
  exact W.iret hx hb hr (fun t ht _ => ⟨rfl, ht⟩) (fun q z => nomatch z) dX1_placeCount_4
set_option maxHeartbeats 4000000 in
set_option maxRecDepth 100000 in
theorem c_boxAtPlace {l : Launch} {s0 : State} {a0 : Array Value} {dC : Nat → ClassId} {dI : Nat → Nat → Nat} {cA : Nat → ClassId} (h : xC l s0 a0 dC dI cA) (br pl : Nat) (z1 z2 z3 : Int32) (f : Nat → Option Nat) (x : Int32) (hi : vp_in x 19) : Met l yX1_boxAtPlace [Cond.code yX1_boxAtPlace cX1_boxAtPlace 2 (some (.object "FaultBench$Box"))] ({ frames := 0, cells := 0, slots := 0, locals := 0 } : Room) (xP s0 (dC, dI) [.ref br, .int x] [(br, .inr (1, [.ref pl, .int z1, .int z2, .int z3])), (pl, .inl (cA 8, 19, .inr (.inr (.inr (.inr f)))))]) (xR (some (va_rf (f x.toNatClampNeg)))) 0 0 (fun _ => False) := by
  refine Met.ofW (cc := cX1_boxAtPlace) (maxL := 2) (ret := (some (.object "FaultBench$Box"))) (by decide) rfl ?_
  intro p e s m args below meth c s₁ B hml hv
  obtain ⟨rfl, hb0, hP⟩ := hv
  have hx := B.exec
  have hb := B.bytes
  have hr := B.returns
  have hown : s.vm.findClass RX1 = some m.cls := findClass_of_methodNamed B.named
  have hlocks := B.notSynchronized
  have hK := h.K hb0
  have hS : va_S (fun _ : Nat => False) s.heap s.heap [] := va_S.rf
  have hz : ∀ q : Nat, (fun _ : Nat => False) q → s0.heap.size ≤ q := fun _ z => z.elim
  have hl := lv_entry ([.ref br, .int x]) (n := 2) (Nat.le_of_ble_eq_true rfl)
  rw [lg_entry_eq]
  generalize (lg_sl ([.ref br, .int x]) ++ List.replicate (2 - (lg_sl ([.ref br, .int x])).length) Slot.unset).toArray = ls at hl ⊢
  have hl : lv_has ls 2 [(0, .ref br), (1, .int x)] := hl
  refine lv_aload_n hx hb dX1_boxAtPlace_0 rfl (lv_at hl 0 rfl) ?_
  refine va_get (D := (dC, dI)) (ci := 1) (v := .ref pl) (C := RX1) (T := TX1) (N := 4) hx hb (ly_1 h hb0) (fun _ z => z) hown hK hP 0 rfl rfl 0 (by decide) (k_97 h hb0) (fun _ z => z) rfl dX1_boxAtPlace_1 ?_
  refine lv_iload_n hx hb dX1_boxAtPlace_4 rfl (lv_at hl 1 rfl) ?_
  refine va_aldq hx hb hK hP 1 8 rfl rfl hi dX1_boxAtPlace_5 ?_
  exact W.aret hx hb hr (Or.inl ⟨_, rfl⟩) (va_rf_or _) (fun t ht _ => ⟨rfl, ht⟩) (fun q z => nomatch z) dX1_boxAtPlace_6
set_option maxHeartbeats 4000000 in
set_option maxRecDepth 100000 in
theorem c_takes_n {l : Launch} {s0 : State} {a0 : Array Value} {dC : Nat → ClassId} {dI : Nat → Nat → Nat} {cA : Nat → ClassId} (h : xC l s0 a0 dC dI cA) (br pl : Nat) (z1 z2 z3 : Int32)   : Met l yX1_takes [Cond.code yX1_takes cX1_takes 2 (some .boolean)] ({ frames := 0, cells := 0, slots := 0, locals := 0 } : Room) (xP s0 (dC, dI) [.ref br, .null] [(br, .inr (1, [.ref pl, .int z1, .int z2, .int z3]))]) (xR (some (.int 1))) 0 0 (fun _ => False) := by
  refine Met.ofW (cc := cX1_takes) (maxL := 2) (ret := (some .boolean)) (by decide) rfl ?_
  intro p e s m args below meth c s₁ B hml hv
  obtain ⟨rfl, hb0, hP⟩ := hv
  have hx := B.exec
  have hb := B.bytes
  have hr := B.returns
  have hown : s.vm.findClass RX1 = some m.cls := findClass_of_methodNamed B.named
  have hlocks := B.notSynchronized
  have hK := h.K hb0
  have hS : va_S (fun _ : Nat => False) s.heap s.heap [] := va_S.rf
  have hz : ∀ q : Nat, (fun _ : Nat => False) q → s0.heap.size ≤ q := fun _ z => z.elim
  have hl := lv_entry ([.ref br, .null]) (n := 2) (Nat.le_of_ble_eq_true rfl)
  rw [lg_entry_eq]
  generalize (lg_sl ([.ref br, .null]) ++ List.replicate (2 - (lg_sl ([.ref br, .null])).length) Slot.unset).toArray = ls at hl ⊢
  have hl : lv_has ls 2 [(0, .ref br), (1, .null)] := hl
  refine lv_aload_nN hx hb dX1_takes_0 rfl (lv_at hl 1 rfl) ?_
  refine lv_ifnullN (tgt := 18) hx hb dX1_takes_1 (by decide) ?_
  refine lv_iconst (v := 1) hx hb dX1_takes_18 (by decide) ?_
  refine lv_goto (tgt := 23) hx hb dX1_takes_19 (by decide) ?_
  exact W.zret hx hb hr rfl (fun t ht _ => ⟨rfl, ht⟩) (fun q z => nomatch z) dX1_takes_23
set_option maxHeartbeats 4000000 in
set_option maxRecDepth 100000 in
theorem c_takes_f {l : Launch} {s0 : State} {a0 : Array Value} {dC : Nat → ClassId} {dI : Nat → Nat → Nat} {cA : Nat → ClassId} (h : xC l s0 a0 dC dI cA) (br pl : Nat) (z1 z2 z3 : Int32) (a : Nat) (hd : z2 = 0) : Met l yX1_takes [Cond.code yX1_takes cX1_takes 2 (some .boolean)] ({ frames := 0, cells := 0, slots := 0, locals := 0 } : Room) (xP s0 (dC, dI) [.ref br, .ref a] [(br, .inr (1, [.ref pl, .int z1, .int z2, .int z3]))]) (xR (some (.int 1))) 0 0 (fun _ => False) := by
  refine Met.ofW (cc := cX1_takes) (maxL := 2) (ret := (some .boolean)) (by decide) rfl ?_
  intro p e s m args below meth c s₁ B hml hv
  obtain ⟨rfl, hb0, hP⟩ := hv
  have hx := B.exec
  have hb := B.bytes
  have hr := B.returns
  have hown : s.vm.findClass RX1 = some m.cls := findClass_of_methodNamed B.named
  have hlocks := B.notSynchronized
  have hK := h.K hb0
  have hS : va_S (fun _ : Nat => False) s.heap s.heap [] := va_S.rf
  have hz : ∀ q : Nat, (fun _ : Nat => False) q → s0.heap.size ≤ q := fun _ z => z.elim
  have hl := lv_entry ([.ref br, .ref a]) (n := 2) (Nat.le_of_ble_eq_true rfl)
  rw [lg_entry_eq]
  generalize (lg_sl ([.ref br, .ref a]) ++ List.replicate (2 - (lg_sl ([.ref br, .ref a])).length) Slot.unset).toArray = ls at hl ⊢
  have hl : lv_has ls 2 [(0, .ref br), (1, .ref a)] := hl
  refine lv_aload_n hx hb dX1_takes_0 rfl (lv_at hl 1 rfl) ?_
  refine lv_ifnull hx hb dX1_takes_1 ?_
  refine lv_aload_n hx hb dX1_takes_4 rfl (lv_at hl 0 rfl) ?_
  refine va_get (D := (dC, dI)) (ci := 1) (v := .int z2) (C := RX1) (T := TX1) (N := 4) hx hb (ly_1 h hb0) (fun _ z => z) hown hK hP 0 rfl rfl 2 (by decide) (k_99 h hb0) (fun _ z => z) rfl dX1_takes_5 ?_
  refine lv_if_eq (tgt := 18) hx hb dX1_takes_8 (by decide) (fun c_1 => ?_) (fun c_1 => ?_)
  · refine lv_iconst (v := 1) hx hb dX1_takes_18 (by decide) ?_
    refine lv_goto (tgt := 23) hx hb dX1_takes_19 (by decide) ?_
    exact W.zret hx hb hr rfl (fun t ht _ => ⟨rfl, ht⟩) (fun q z => nomatch z) dX1_takes_23
  · exact absurd hd c_1
set_option maxHeartbeats 4000000 in
set_option maxRecDepth 100000 in
theorem c_takes_d {l : Launch} {s0 : State} {a0 : Array Value} {dC : Nat → ClassId} {dI : Nat → Nat → Nat} {cA : Nat → ClassId} (h : xC l s0 a0 dC dI cA) (br pl : Nat) (z1 z2 z3 : Int32) (a : Nat) (v : Int32) (hd : ¬ z2 = 0) : Met l yX1_takes [Cond.code yX1_takes cX1_takes 2 (some .boolean)] ({ frames := 0, cells := 0, slots := 0, locals := 0 } : Room) (xP s0 (dC, dI) [.ref br, .ref a] [(br, .inr (1, [.ref pl, .int z1, .int z2, .int z3])), (a, .inr (2, [.int v]))]) (xR (some (.int 1))) 0 0 (fun _ => False) := by
  refine Met.ofW (cc := cX1_takes) (maxL := 2) (ret := (some .boolean)) (by decide) rfl ?_
  intro p e s m args below meth c s₁ B hml hv
  obtain ⟨rfl, hb0, hP⟩ := hv
  have hx := B.exec
  have hb := B.bytes
  have hr := B.returns
  have hown : s.vm.findClass RX1 = some m.cls := findClass_of_methodNamed B.named
  have hlocks := B.notSynchronized
  have hK := h.K hb0
  have hS : va_S (fun _ : Nat => False) s.heap s.heap [] := va_S.rf
  have hz : ∀ q : Nat, (fun _ : Nat => False) q → s0.heap.size ≤ q := fun _ z => z.elim
  have hl := lv_entry ([.ref br, .ref a]) (n := 2) (Nat.le_of_ble_eq_true rfl)
  rw [lg_entry_eq]
  generalize (lg_sl ([.ref br, .ref a]) ++ List.replicate (2 - (lg_sl ([.ref br, .ref a])).length) Slot.unset).toArray = ls at hl ⊢
  have hl : lv_has ls 2 [(0, .ref br), (1, .ref a)] := hl
  refine lv_aload_n hx hb dX1_takes_0 rfl (lv_at hl 1 rfl) ?_
  refine lv_ifnull hx hb dX1_takes_1 ?_
  refine lv_aload_n hx hb dX1_takes_4 rfl (lv_at hl 0 rfl) ?_
  refine va_get (D := (dC, dI)) (ci := 1) (v := .int z2) (C := RX1) (T := TX1) (N := 4) hx hb (ly_1 h hb0) (fun _ z => z) hown hK hP 0 rfl rfl 2 (by decide) (k_99 h hb0) (fun _ z => z) rfl dX1_takes_5 ?_
  refine lv_if_eq (tgt := 18) hx hb dX1_takes_8 (by decide) (fun c_1 => ?_) (fun c_1 => ?_)
  · exact absurd c_1 hd
  · refine lv_aload_n hx hb dX1_takes_11 rfl (lv_at hl 1 rfl) ?_
    refine va_instY (C := RX2) hx hb hown (k_397 h hb0) (k_655 h hb0) (va_recv hK hP (ci := 2) (q0 := 1) rfl rfl) dX1_takes_12 ?_
    refine lv_if_eq (tgt := 22) hx hb dX1_takes_15 (by decide) (fun c_2 => ?_) (fun c_2 => ?_)
    · exact absurd c_2 (by decide)
    · refine lv_iconst (v := 1) hx hb dX1_takes_18 (by decide) ?_
      refine lv_goto (tgt := 23) hx hb dX1_takes_19 (by decide) ?_
      exact W.zret hx hb hr rfl (fun t ht _ => ⟨rfl, ht⟩) (fun q z => nomatch z) dX1_takes_23
set_option maxHeartbeats 4000000 in
set_option maxRecDepth 100000 in
theorem c_takes_b {l : Launch} {s0 : State} {a0 : Array Value} {dC : Nat → ClassId} {dI : Nat → Nat → Nat} {cA : Nat → ClassId} (h : xC l s0 a0 dC dI cA) (br pl : Nat) (z1 z2 z3 : Int32) (a : Nat) (v : Int32) (hd : ¬ z2 = 0) : Met l yX1_takes [Cond.code yX1_takes cX1_takes 2 (some .boolean)] ({ frames := 0, cells := 0, slots := 0, locals := 0 } : Room) (xP s0 (dC, dI) [.ref br, .ref a] [(br, .inr (1, [.ref pl, .int z1, .int z2, .int z3])), (a, .inr (0, [.int v]))]) (xR (some (.int 0))) 0 0 (fun _ => False) := by
  refine Met.ofW (cc := cX1_takes) (maxL := 2) (ret := (some .boolean)) (by decide) rfl ?_
  intro p e s m args below meth c s₁ B hml hv
  obtain ⟨rfl, hb0, hP⟩ := hv
  have hx := B.exec
  have hb := B.bytes
  have hr := B.returns
  have hown : s.vm.findClass RX1 = some m.cls := findClass_of_methodNamed B.named
  have hlocks := B.notSynchronized
  have hK := h.K hb0
  have hS : va_S (fun _ : Nat => False) s.heap s.heap [] := va_S.rf
  have hz : ∀ q : Nat, (fun _ : Nat => False) q → s0.heap.size ≤ q := fun _ z => z.elim
  have hl := lv_entry ([.ref br, .ref a]) (n := 2) (Nat.le_of_ble_eq_true rfl)
  rw [lg_entry_eq]
  generalize (lg_sl ([.ref br, .ref a]) ++ List.replicate (2 - (lg_sl ([.ref br, .ref a])).length) Slot.unset).toArray = ls at hl ⊢
  have hl : lv_has ls 2 [(0, .ref br), (1, .ref a)] := hl
  refine lv_aload_n hx hb dX1_takes_0 rfl (lv_at hl 1 rfl) ?_
  refine lv_ifnull hx hb dX1_takes_1 ?_
  refine lv_aload_n hx hb dX1_takes_4 rfl (lv_at hl 0 rfl) ?_
  refine va_get (D := (dC, dI)) (ci := 1) (v := .int z2) (C := RX1) (T := TX1) (N := 4) hx hb (ly_1 h hb0) (fun _ z => z) hown hK hP 0 rfl rfl 2 (by decide) (k_99 h hb0) (fun _ z => z) rfl dX1_takes_5 ?_
  refine lv_if_eq (tgt := 18) hx hb dX1_takes_8 (by decide) (fun c_1 => ?_) (fun c_1 => ?_)
  · exact absurd c_1 hd
  · refine lv_aload_n hx hb dX1_takes_11 rfl (lv_at hl 1 rfl) ?_
    refine va_instNo (C := RX0) hx hb hown (k_397 h hb0) (xNoDisc h hb0) (va_recv hK hP (ci := 0) (q0 := 1) rfl rfl) dX1_takes_12 ?_
    refine lv_if_eq (tgt := 22) hx hb dX1_takes_15 (by decide) (fun c_2 => ?_) (fun c_2 => ?_)
    · refine lv_iconst (v := 0) hx hb dX1_takes_22 (by decide) ?_
      exact W.zret hx hb hr rfl (fun t ht _ => ⟨rfl, ht⟩) (fun q z => nomatch z) dX1_takes_23
    · exact absurd rfl c_2
set_option maxHeartbeats 4000000 in
set_option maxRecDepth 100000 in
theorem c_weightBox {l : Launch} {s0 : State} {a0 : Array Value} {dC : Nat → ClassId} {dI : Nat → Nat → Nat} {cA : Nat → ClassId} (h : xC l s0 a0 dC dI cA) (a : Nat) (v x : Int32)  : Met l yX0_weightWith [Cond.code yX0_weightWith cX0_weightWith 2 (some .int)] ({ frames := 0, cells := 0, slots := 0, locals := 0 } : Room) (xP s0 (dC, dI) [.ref a, .int x] [(a, .inr (0, [.int v]))]) (xR (some (.int (v * 3 + x)))) 0 0 (fun _ => False) := by
  refine Met.ofW (cc := cX0_weightWith) (maxL := 2) (ret := (some .int)) (by decide) rfl ?_
  intro p e s m args below meth c s₁ B hml hv
  obtain ⟨rfl, hb0, hP⟩ := hv
  have hx := B.exec
  have hb := B.bytes
  have hr := B.returns
  have hown : s.vm.findClass RX0 = some m.cls := findClass_of_methodNamed B.named
  have hlocks := B.notSynchronized
  have hK := h.K hb0
  have hS : va_S (fun _ : Nat => False) s.heap s.heap [] := va_S.rf
  have hz : ∀ q : Nat, (fun _ : Nat => False) q → s0.heap.size ≤ q := fun _ z => z.elim
  have hl := lv_entry ([.ref a, .int x]) (n := 2) (Nat.le_of_ble_eq_true rfl)
  rw [lg_entry_eq]
  generalize (lg_sl ([.ref a, .int x]) ++ List.replicate (2 - (lg_sl ([.ref a, .int x])).length) Slot.unset).toArray = ls at hl ⊢
  have hl : lv_has ls 2 [(0, .ref a), (1, .int x)] := hl
  refine lv_aload_n hx hb dX0_weightWith_0 rfl (lv_at hl 0 rfl) ?_
  refine va_get (D := (dC, dI)) (ci := 0) (v := .int v) (C := RX0) (T := TX0) (N := 1) hx hb (ly_0 h hb0) (fun _ z => z) hown hK hP 0 rfl rfl 0 (by decide) (k_378 h hb0) (fun _ z => z) rfl dX0_weightWith_1 ?_
  refine lv_iconst (v := 3) hx hb dX0_weightWith_4 (by decide) ?_
  refine lv_imul hx hb dX0_weightWith_5 ?_
  refine lv_iload_n hx hb dX0_weightWith_6 rfl (lv_at hl 1 rfl) ?_
  refine lv_iadd hx hb dX0_weightWith_7 ?_
  exact W.iret hx hb hr (fun t ht _ => ⟨rfl, ht⟩) (fun q z => nomatch z) dX0_weightWith_8
set_option maxHeartbeats 4000000 in
set_option maxRecDepth 100000 in
theorem c_weightDisc {l : Launch} {s0 : State} {a0 : Array Value} {dC : Nat → ClassId} {dI : Nat → Nat → Nat} {cA : Nat → ClassId} (h : xC l s0 a0 dC dI cA) (a : Nat) (v x : Int32)  : Met l yX2_weightWith [Cond.code yX2_weightWith cX2_weightWith 2 (some .int)] ({ frames := 0, cells := 0, slots := 0, locals := 0 } : Room) (xP s0 (dC, dI) [.ref a, .int x] [(a, .inr (2, [.int v]))]) (xR (some (.int (v * 5 - x)))) 0 0 (fun _ => False) := by
  refine Met.ofW (cc := cX2_weightWith) (maxL := 2) (ret := (some .int)) (by decide) rfl ?_
  intro p e s m args below meth c s₁ B hml hv
  obtain ⟨rfl, hb0, hP⟩ := hv
  have hx := B.exec
  have hb := B.bytes
  have hr := B.returns
  have hown : s.vm.findClass RX2 = some m.cls := findClass_of_methodNamed B.named
  have hlocks := B.notSynchronized
  have hK := h.K hb0
  have hS : va_S (fun _ : Nat => False) s.heap s.heap [] := va_S.rf
  have hz : ∀ q : Nat, (fun _ : Nat => False) q → s0.heap.size ≤ q := fun _ z => z.elim
  have hl := lv_entry ([.ref a, .int x]) (n := 2) (Nat.le_of_ble_eq_true rfl)
  rw [lg_entry_eq]
  generalize (lg_sl ([.ref a, .int x]) ++ List.replicate (2 - (lg_sl ([.ref a, .int x])).length) Slot.unset).toArray = ls at hl ⊢
  have hl : lv_has ls 2 [(0, .ref a), (1, .int x)] := hl
  refine lv_aload_n hx hb dX2_weightWith_0 rfl (lv_at hl 0 rfl) ?_
  refine va_get (D := (dC, dI)) (ci := 2) (v := .int v) (C := RX2) (T := TX2) (N := 1) hx hb (ly_2 h hb0) (fun _ z => z) hown hK hP 0 rfl rfl 0 (by decide) (k_379 h hb0) (u_same (args := #[]) (k_380 h hb0)) rfl dX2_weightWith_1 ?_
  refine lv_iconst (v := 5) hx hb dX2_weightWith_4 (by decide) ?_
  refine lv_imul hx hb dX2_weightWith_5 ?_
  refine lv_iload_n hx hb dX2_weightWith_6 rfl (lv_at hl 1 rfl) ?_
  refine lv_isub hx hb dX2_weightWith_7 ?_
  exact W.iret hx hb hr (fun t ht _ => ⟨rfl, ht⟩) (fun q z => nomatch z) dX2_weightWith_8
set_option maxHeartbeats 4000000 in
set_option maxRecDepth 100000 in
theorem c_rolled {l : Launch} {s0 : State} {a0 : Array Value} {dC : Nat → ClassId} {dI : Nat → Nat → Nat} {cA : Nat → ClassId} (h : xC l s0 a0 dC dI cA) (a : Nat) (v x : Int32)  : Met l yX2_rolledWith [Cond.code yX2_rolledWith cX2_rolledWith 2 (some .int)] ({ frames := 0, cells := 0, slots := 0, locals := 0 } : Room) (xP s0 (dC, dI) [.ref a, .int x] [(a, .inr (2, [.int v]))]) (xR (some (.int (v ^^^ x)))) 0 0 (fun _ => False) := by
  refine Met.ofW (cc := cX2_rolledWith) (maxL := 2) (ret := (some .int)) (by decide) rfl ?_
  intro p e s m args below meth c s₁ B hml hv
  obtain ⟨rfl, hb0, hP⟩ := hv
  have hx := B.exec
  have hb := B.bytes
  have hr := B.returns
  have hown : s.vm.findClass RX2 = some m.cls := findClass_of_methodNamed B.named
  have hlocks := B.notSynchronized
  have hK := h.K hb0
  have hS : va_S (fun _ : Nat => False) s.heap s.heap [] := va_S.rf
  have hz : ∀ q : Nat, (fun _ : Nat => False) q → s0.heap.size ≤ q := fun _ z => z.elim
  have hl := lv_entry ([.ref a, .int x]) (n := 2) (Nat.le_of_ble_eq_true rfl)
  rw [lg_entry_eq]
  generalize (lg_sl ([.ref a, .int x]) ++ List.replicate (2 - (lg_sl ([.ref a, .int x])).length) Slot.unset).toArray = ls at hl ⊢
  have hl : lv_has ls 2 [(0, .ref a), (1, .int x)] := hl
  refine lv_aload_n hx hb dX2_rolledWith_0 rfl (lv_at hl 0 rfl) ?_
  refine va_get (D := (dC, dI)) (ci := 2) (v := .int v) (C := RX2) (T := TX2) (N := 1) hx hb (ly_2 h hb0) (fun _ z => z) hown hK hP 0 rfl rfl 0 (by decide) (k_379 h hb0) (u_same (args := #[]) (k_380 h hb0)) rfl dX2_rolledWith_1 ?_
  refine lv_iload_n hx hb dX2_rolledWith_4 rfl (lv_at hl 1 rfl) ?_
  refine lv_ixor hx hb dX2_rolledWith_5 ?_
  exact W.iret hx hb hr (fun t ht _ => ⟨rfl, ht⟩) (fun q z => nomatch z) dX2_rolledWith_6
end
section
/-! Writing: the rows', the grid's and the boxes' own methods. -/
def gset (g : Nat → Nat → Int32) (k i : Nat) (v : Int32) : Nat → Nat → Int32 := fun a b => if a = k ∧ b = i then v else g a b
def gz (g : Nat → Nat → Int32) (k n : Nat) : Nat → Nat → Int32 := fun a b => if a = k ∧ b < n then 0 else g a b
theorem gz_0 (g : Nat → Nat → Int32) (k : Nat) : gz g k 0 = g := by funext a b; simp [gz]
theorem gz_s (g : Nat → Nat → Int32) (k i : Nat) : gset (gz g k i) k i 0 = gz g k (i + 1) := by
  funext a b
  by_cases h1 : a = k
  · by_cases h2 : b = i
    · simp [gset, gz, h1, h2]
    · by_cases h3 : b < i
      · simp [gset, gz, h1, h2, h3, show b < i + 1 by omega]
      · simp [gset, gz, h1, h2, h3, show ¬ b < i + 1 by omega]
  · simp [gset, gz, h1]
theorem gs_0 {g : Nat → Nat → Int32} {K i : Nat} {v : Int32} (h : ¬ 0 = K) : r0 (gset g K i v) = r0 g := by funext j; simp [r0, gset, h]
theorem gs_1 {g : Nat → Nat → Int32} {K i : Nat} {v : Int32} (h : ¬ 1 = K) : r1 (gset g K i v) = r1 g := by funext j; simp [r1, gset, h]
theorem gs_2 {g : Nat → Nat → Int32} {K i : Nat} {v : Int32} (h : ¬ 2 = K) : r2 (gset g K i v) = r2 g := by funext j; simp [r2, gset, h]
theorem gs_3 {g : Nat → Nat → Int32} {K i : Nat} {v : Int32} (h : ¬ 3 = K) : r3 (gset g K i v) = r3 g := by funext j; simp [r3, gset, h]
theorem gs_4 {g : Nat → Nat → Int32} {K i : Nat} {v : Int32} (h : ¬ 4 = K) : r4 (gset g K i v) = r4 g := by funext j; simp [r4, gset, h]
theorem gs_5 {g : Nat → Nat → Int32} {K i : Nat} {v : Int32} (h : ¬ 5 = K) : r5 (gset g K i v) = r5 g := by funext j; simp [r5, gset, h]
theorem gs_6 {g : Nat → Nat → Int32} {K i : Nat} {v : Int32} (h : ¬ 6 = K) : r6 (gset g K i v) = r6 g := by funext j; simp [r6, gset, h]
theorem gs_7 {g : Nat → Nat → Int32} {K i : Nat} {v : Int32} (h : ¬ 7 = K) : r7 (gset g K i v) = r7 g := by funext j; simp [r7, gset, h]
theorem gsu_0 {g : Nat → Nat → Int32} {i : Nat} {v : Int32} : upd (r0 g) i v = r0 (gset g 0 i v) := by
  funext j
  by_cases h : j = i <;> simp [r0, gset, upd, h]
theorem gsu_1 {g : Nat → Nat → Int32} {i : Nat} {v : Int32} : vp_updL (r1 g) i v.toInt64 = r1 (gset g 1 i v) := by
  funext j
  by_cases h : j = i <;> simp [r1, gset, vp_updL, h]
theorem gsu_2 {g : Nat → Nat → Int32} {i : Nat} {v : Int32} : upd (r2 g) i (vp_nar .short v.toInt16.toInt32) = r2 (gset g 2 i v) := by
  rw [pk_vs]; funext j
  by_cases h : j = i <;> simp [r2, gset, upd, h]
theorem gsu_3 {g : Nat → Nat → Int32} {i : Nat} {v : Int32} : upd (r3 g) i (vp_nar .byte v.toInt8.toInt32) = r3 (gset g 3 i v) := by
  rw [pk_vb]; funext j
  by_cases h : j = i <;> simp [r3, gset, upd, h]
theorem gsu_4 {g : Nat → Nat → Int32} {i : Nat} {v : Int32} : upd (r4 g) i (vp_nar .char (v.toUInt32 % 65536).toInt32) = r4 (gset g 4 i v) := by
  rw [pk_vc]; funext j
  by_cases h : j = i <;> simp [r4, gset, upd, h]
theorem gsu_6 {g : Nat → Nat → Int32} {i : Nat} {v : Int32} : vf_upd (r6 g) i (FP.i2f v) = r6 (gset g 6 i v) := by
  funext j
  by_cases h : j = i <;> simp [r6, gset, vf_upd, h]
theorem gsu_7 {g : Nat → Nat → Int32} {i : Nat} {v : Int32} : vf_upd (r7 g) i (FP.i2d v) = r7 (gset g 7 i v) := by
  funext j
  by_cases h : j = i <;> simp [r7, gset, vf_upd, h]
theorem gsu_5t {g : Nat → Nat → Int32} {i : Nat} {v : Int32} (hv : ¬ v = 0) : upd (r5 g) i (vp_nar .boolean 1) = r5 (gset g 5 i v) := by
  rw [show vp_nar .boolean 1 = 1 from rfl]
  funext j
  by_cases h : j = i <;> simp [r5, gset, upd, h, hv]
theorem gsu_5f {g : Nat → Nat → Int32} {i : Nat} {v : Int32} (hv : v = 0) : upd (r5 g) i (vp_nar .boolean 0) = r5 (gset g 5 i v) := by
  rw [show vp_nar .boolean 0 = 0 from rfl]
  funext j
  by_cases h : j = i <;> simp [r5, gset, upd, h, hv]
set_option maxHeartbeats 4000000 in
set_option maxRecDepth 100000 in
theorem c_store {l : Launch} {s0 : State} {a0 : Array Value} {dC : Nat → ClassId} {dI : Nat → Nat → Nat} {cA : Nat → ClassId} (h : xC l s0 a0 dC dI cA) (ro b0 b1 b2 b3 b4 b5 b6 b7 b8 : Nat) (g : Nat → Nat → Int32) (K : Nat) (x v : Int32) (sz : Nat) (hK8 : K < 8) (hi : vp_in x 39) : Met l yX4_store [Cond.code yX4_store cX4_store 4 none] ({ frames := 0, cells := 0, slots := 0, locals := 0 } : Room) (xPM s0 (dC, dI) [.ref ro, .int (nI K), .int x, .int v] [(ro, .inr (4, [.ref b0, .ref b1, .ref b2, .ref b3, .ref b4, .ref b5, .ref b6, .ref b7, .ref b8]))] [(b1, .inl (cA 0, 39, .inl (r0 g))), (b2, .inl (cA 1, 39, .inr (.inl (r1 g)))), (b3, .inl (cA 2, 39, .inl (r2 g))), (b4, .inl (cA 3, 39, .inl (r3 g))), (b5, .inl (cA 4, 39, .inl (r4 g))), (b6, .inl (cA 5, 39, .inl (r5 g))), (b7, .inl (cA 6, 39, .inr (.inr (.inl (r6 g))))), (b8, .inl (cA 7, 39, .inr (.inr (.inr (.inl (r7 g))))))] sz) (xQM (dC, dI) (va_A [(b1, .inl (cA 0, 39, .inl (r0 g))), (b2, .inl (cA 1, 39, .inr (.inl (r1 g)))), (b3, .inl (cA 2, 39, .inl (r2 g))), (b4, .inl (cA 3, 39, .inl (r3 g))), (b5, .inl (cA 4, 39, .inl (r4 g))), (b6, .inl (cA 5, 39, .inl (r5 g))), (b7, .inl (cA 6, 39, .inr (.inr (.inl (r6 g))))), (b8, .inl (cA 7, 39, .inr (.inr (.inr (.inl (r7 g))))))] sz) (fun r w1 => r = none ∧ w1 = [(b1, .inl (cA 0, 39, .inl (r0 (gset g K x.toNatClampNeg v)))), (b2, .inl (cA 1, 39, .inr (.inl (r1 (gset g K x.toNatClampNeg v))))), (b3, .inl (cA 2, 39, .inl (r2 (gset g K x.toNatClampNeg v)))), (b4, .inl (cA 3, 39, .inl (r3 (gset g K x.toNatClampNeg v)))), (b5, .inl (cA 4, 39, .inl (r4 (gset g K x.toNatClampNeg v)))), (b6, .inl (cA 5, 39, .inl (r5 (gset g K x.toNatClampNeg v)))), (b7, .inl (cA 6, 39, .inr (.inr (.inl (r6 (gset g K x.toNatClampNeg v)))))), (b8, .inl (cA 7, 39, .inr (.inr (.inr (.inl (r7 (gset g K x.toNatClampNeg v)))))))])) 0 0 (va_A [(b1, .inl (cA 0, 39, .inl (r0 g))), (b2, .inl (cA 1, 39, .inr (.inl (r1 g)))), (b3, .inl (cA 2, 39, .inl (r2 g))), (b4, .inl (cA 3, 39, .inl (r3 g))), (b5, .inl (cA 4, 39, .inl (r4 g))), (b6, .inl (cA 5, 39, .inl (r5 g))), (b7, .inl (cA 6, 39, .inr (.inr (.inl (r6 g))))), (b8, .inl (cA 7, 39, .inr (.inr (.inr (.inl (r7 g))))))] sz) := by
  refine Met.ofW (cc := cX4_store) (maxL := 4) (ret := none) (by decide) rfl ?_
  intro p e s m args below meth c s₁ B hml hv
  obtain ⟨rfl, rfl, hb0, hPr, hP, hD0⟩ := hv
  have hx := B.exec
  have hb := B.bytes
  have hr := B.returns
  have hown : s.vm.findClass RX4 = some m.cls := findClass_of_methodNamed B.named
  have hlocks := B.notSynchronized
  have hK := h.K hb0
  have hS : va_S (va_A [(b1, .inl (cA 0, 39, .inl (r0 g))), (b2, .inl (cA 1, 39, .inr (.inl (r1 g)))), (b3, .inl (cA 2, 39, .inl (r2 g))), (b4, .inl (cA 3, 39, .inl (r3 g))), (b5, .inl (cA 4, 39, .inl (r4 g))), (b6, .inl (cA 5, 39, .inl (r5 g))), (b7, .inl (cA 6, 39, .inr (.inr (.inl (r6 g))))), (b8, .inl (cA 7, 39, .inr (.inr (.inr (.inl (r7 g))))))] s.heap.size) s.heap s.heap [] := va_S.rf
  obtain ⟨A, hAe, hD, hA, hz, hRo, hwk, hnR⟩ := xM_start hb0 hPr hP hD0
  rw [hAe] at hS ⊢
  have hl := lv_entry ([.ref ro, .int (nI K), .int x, .int v]) (n := 4) (Nat.le_of_ble_eq_true rfl)
  rw [lg_entry_eq]
  generalize (lg_sl ([.ref ro, .int (nI K), .int x, .int v]) ++ List.replicate (4 - (lg_sl ([.ref ro, .int (nI K), .int x, .int v])).length) Slot.unset).toArray = ls at hl ⊢
  have hl : lv_has ls 4 [(0, .ref ro), (1, .int (nI K)), (2, .int x), (3, .int v)] := hl
  refine lv_iload_n hx hb dX4_store_0 rfl (lv_at hl 1 rfl) ?_
  have hk : K = 0 ∨ K = 1 ∨ K = 2 ∨ K = 3 ∨ K = 4 ∨ K = 5 ∨ K = 6 ∨ K = 7 := by omega
  rcases hk with rfl | rfl | rfl | rfl | rfl | rfl | rfl | rfl
  · refine lv_tableIn (off := 43) (tgt := 44) hx hb dX4_store_1 (by decide) (by decide) (by decide) (by decide) ?_
    refine lv_aload_n hx hb dX4_store_44 rfl (lv_at hl 0 rfl) ?_
    refine va_get (D := (dC, dI)) (ci := 4) (v := .ref b1) (C := RX4) (T := TX4) (N := 9) hx hb (ly_4 h hb0) (fun _ z => z) hown hK (hRo _ _ hS) 0 rfl rfl 1 (by decide) (k_33 h hb0) (fun _ z => z) rfl dX4_store_45 ?_
    refine lv_iload_n hx hb dX4_store_48 rfl (lv_at hl 2 rfl) ?_
    refine lv_iload_n hx hb dX4_store_49 rfl (lv_at hl 3 rfl) ?_
    refine va_iast hx hb hK hP hD hS 0 0 rfl rfl hi dX4_store_50 (fun H locs hP hD hS => ?_)
    have hP : va_P (dC, dI) vwCl [(b1, .inl (cA 0, 39, .inl (upd (r0 g) x.toNatClampNeg v))), (b2, .inl (cA 1, 39, .inr (.inl (r1 g)))), (b3, .inl (cA 2, 39, .inl (r2 g))), (b4, .inl (cA 3, 39, .inl (r3 g))), (b5, .inl (cA 4, 39, .inl (r4 g))), (b6, .inl (cA 5, 39, .inl (r5 g))), (b7, .inl (cA 6, 39, .inr (.inr (.inl (r6 g))))), (b8, .inl (cA 7, 39, .inr (.inr (.inr (.inl (r7 g))))))] H := hP
    have hD : va_D A [(b1, .inl (cA 0, 39, .inl (upd (r0 g) x.toNatClampNeg v))), (b2, .inl (cA 1, 39, .inr (.inl (r1 g)))), (b3, .inl (cA 2, 39, .inl (r2 g))), (b4, .inl (cA 3, 39, .inl (r3 g))), (b5, .inl (cA 4, 39, .inl (r4 g))), (b6, .inl (cA 5, 39, .inl (r5 g))), (b7, .inl (cA 6, 39, .inr (.inr (.inl (r6 g))))), (b8, .inl (cA 7, 39, .inr (.inr (.inr (.inl (r7 g))))))] := hD
    refine lv_goto (tgt := 135) hx hb dX4_store_51 (by decide) ?_
    exact W.vret hx hb hr (fun t ht _ => ⟨none, _, rfl, ⟨rfl, by rw [gsu_0, gs_1 (by decide), gs_2 (by decide), gs_3 (by decide), gs_4 (by decide), gs_5 (by decide), gs_6 (by decide), gs_7 (by decide)]⟩, by rw [ht]; exact hP, hD, hS.F ht⟩) (fun q z => hS.2.2 q z) dX4_store_135
  · refine lv_tableIn (off := 53) (tgt := 54) hx hb dX4_store_1 (by decide) (by decide) (by decide) (by decide) ?_
    refine lv_aload_n hx hb dX4_store_54 rfl (lv_at hl 0 rfl) ?_
    refine va_get (D := (dC, dI)) (ci := 4) (v := .ref b2) (C := RX4) (T := TX4) (N := 9) hx hb (ly_4 h hb0) (fun _ z => z) hown hK (hRo _ _ hS) 0 rfl rfl 2 (by decide) (k_34 h hb0) (fun _ z => z) rfl dX4_store_55 ?_
    refine lv_iload_n hx hb dX4_store_58 rfl (lv_at hl 2 rfl) ?_
    refine lv_iload_n hx hb dX4_store_59 rfl (lv_at hl 3 rfl) ?_
    refine lv_i2l hx hb dX4_store_60 rfl ?_
    refine va_last hx hb hK hP hD hS 1 1 rfl rfl hi dX4_store_61 (fun H locs hP hD hS => ?_)
    have hP : va_P (dC, dI) vwCl [(b1, .inl (cA 0, 39, .inl (r0 g))), (b2, .inl (cA 1, 39, .inr (.inl (vp_updL (r1 g) x.toNatClampNeg v.toInt64)))), (b3, .inl (cA 2, 39, .inl (r2 g))), (b4, .inl (cA 3, 39, .inl (r3 g))), (b5, .inl (cA 4, 39, .inl (r4 g))), (b6, .inl (cA 5, 39, .inl (r5 g))), (b7, .inl (cA 6, 39, .inr (.inr (.inl (r6 g))))), (b8, .inl (cA 7, 39, .inr (.inr (.inr (.inl (r7 g))))))] H := hP
    have hD : va_D A [(b1, .inl (cA 0, 39, .inl (r0 g))), (b2, .inl (cA 1, 39, .inr (.inl (vp_updL (r1 g) x.toNatClampNeg v.toInt64)))), (b3, .inl (cA 2, 39, .inl (r2 g))), (b4, .inl (cA 3, 39, .inl (r3 g))), (b5, .inl (cA 4, 39, .inl (r4 g))), (b6, .inl (cA 5, 39, .inl (r5 g))), (b7, .inl (cA 6, 39, .inr (.inr (.inl (r6 g))))), (b8, .inl (cA 7, 39, .inr (.inr (.inr (.inl (r7 g))))))] := hD
    refine lv_goto (tgt := 135) hx hb dX4_store_62 (by decide) ?_
    exact W.vret hx hb hr (fun t ht _ => ⟨none, _, rfl, ⟨rfl, by rw [gsu_1, gs_0 (by decide), gs_2 (by decide), gs_3 (by decide), gs_4 (by decide), gs_5 (by decide), gs_6 (by decide), gs_7 (by decide)]⟩, by rw [ht]; exact hP, hD, hS.F ht⟩) (fun q z => hS.2.2 q z) dX4_store_135
  · refine lv_tableIn (off := 64) (tgt := 65) hx hb dX4_store_1 (by decide) (by decide) (by decide) (by decide) ?_
    refine lv_aload_n hx hb dX4_store_65 rfl (lv_at hl 0 rfl) ?_
    refine va_get (D := (dC, dI)) (ci := 4) (v := .ref b3) (C := RX4) (T := TX4) (N := 9) hx hb (ly_4 h hb0) (fun _ z => z) hown hK (hRo _ _ hS) 0 rfl rfl 3 (by decide) (k_35 h hb0) (fun _ z => z) rfl dX4_store_66 ?_
    refine lv_iload_n hx hb dX4_store_69 rfl (lv_at hl 2 rfl) ?_
    refine lv_iload_n hx hb dX4_store_70 rfl (lv_at hl 3 rfl) ?_
    refine lv_i2s hx hb dX4_store_71 rfl ?_
    refine va_sast hx hb hK hP hD hS 2 2 rfl rfl hi dX4_store_72 (fun H locs hP hD hS => ?_)
    have hP : va_P (dC, dI) vwCl [(b1, .inl (cA 0, 39, .inl (r0 g))), (b2, .inl (cA 1, 39, .inr (.inl (r1 g)))), (b3, .inl (cA 2, 39, .inl (upd (r2 g) x.toNatClampNeg (vp_nar .short v.toInt16.toInt32)))), (b4, .inl (cA 3, 39, .inl (r3 g))), (b5, .inl (cA 4, 39, .inl (r4 g))), (b6, .inl (cA 5, 39, .inl (r5 g))), (b7, .inl (cA 6, 39, .inr (.inr (.inl (r6 g))))), (b8, .inl (cA 7, 39, .inr (.inr (.inr (.inl (r7 g))))))] H := hP
    have hD : va_D A [(b1, .inl (cA 0, 39, .inl (r0 g))), (b2, .inl (cA 1, 39, .inr (.inl (r1 g)))), (b3, .inl (cA 2, 39, .inl (upd (r2 g) x.toNatClampNeg (vp_nar .short v.toInt16.toInt32)))), (b4, .inl (cA 3, 39, .inl (r3 g))), (b5, .inl (cA 4, 39, .inl (r4 g))), (b6, .inl (cA 5, 39, .inl (r5 g))), (b7, .inl (cA 6, 39, .inr (.inr (.inl (r6 g))))), (b8, .inl (cA 7, 39, .inr (.inr (.inr (.inl (r7 g))))))] := hD
    refine lv_goto (tgt := 135) hx hb dX4_store_73 (by decide) ?_
    exact W.vret hx hb hr (fun t ht _ => ⟨none, _, rfl, ⟨rfl, by rw [gsu_2, gs_0 (by decide), gs_1 (by decide), gs_3 (by decide), gs_4 (by decide), gs_5 (by decide), gs_6 (by decide), gs_7 (by decide)]⟩, by rw [ht]; exact hP, hD, hS.F ht⟩) (fun q z => hS.2.2 q z) dX4_store_135
  · refine lv_tableIn (off := 75) (tgt := 76) hx hb dX4_store_1 (by decide) (by decide) (by decide) (by decide) ?_
    refine lv_aload_n hx hb dX4_store_76 rfl (lv_at hl 0 rfl) ?_
    refine va_get (D := (dC, dI)) (ci := 4) (v := .ref b4) (C := RX4) (T := TX4) (N := 9) hx hb (ly_4 h hb0) (fun _ z => z) hown hK (hRo _ _ hS) 0 rfl rfl 4 (by decide) (k_36 h hb0) (fun _ z => z) rfl dX4_store_77 ?_
    refine lv_iload_n hx hb dX4_store_80 rfl (lv_at hl 2 rfl) ?_
    refine lv_iload_n hx hb dX4_store_81 rfl (lv_at hl 3 rfl) ?_
    refine lv_i2b hx hb dX4_store_82 rfl ?_
    refine va_bast hx hb hK hP hD hS 3 3 rfl rfl hi dX4_store_83 (fun H locs hP hD hS => ?_)
    have hP : va_P (dC, dI) vwCl [(b1, .inl (cA 0, 39, .inl (r0 g))), (b2, .inl (cA 1, 39, .inr (.inl (r1 g)))), (b3, .inl (cA 2, 39, .inl (r2 g))), (b4, .inl (cA 3, 39, .inl (upd (r3 g) x.toNatClampNeg (vp_nar .byte v.toInt8.toInt32)))), (b5, .inl (cA 4, 39, .inl (r4 g))), (b6, .inl (cA 5, 39, .inl (r5 g))), (b7, .inl (cA 6, 39, .inr (.inr (.inl (r6 g))))), (b8, .inl (cA 7, 39, .inr (.inr (.inr (.inl (r7 g))))))] H := hP
    have hD : va_D A [(b1, .inl (cA 0, 39, .inl (r0 g))), (b2, .inl (cA 1, 39, .inr (.inl (r1 g)))), (b3, .inl (cA 2, 39, .inl (r2 g))), (b4, .inl (cA 3, 39, .inl (upd (r3 g) x.toNatClampNeg (vp_nar .byte v.toInt8.toInt32)))), (b5, .inl (cA 4, 39, .inl (r4 g))), (b6, .inl (cA 5, 39, .inl (r5 g))), (b7, .inl (cA 6, 39, .inr (.inr (.inl (r6 g))))), (b8, .inl (cA 7, 39, .inr (.inr (.inr (.inl (r7 g))))))] := hD
    refine lv_goto (tgt := 135) hx hb dX4_store_84 (by decide) ?_
    exact W.vret hx hb hr (fun t ht _ => ⟨none, _, rfl, ⟨rfl, by rw [gsu_3, gs_0 (by decide), gs_1 (by decide), gs_2 (by decide), gs_4 (by decide), gs_5 (by decide), gs_6 (by decide), gs_7 (by decide)]⟩, by rw [ht]; exact hP, hD, hS.F ht⟩) (fun q z => hS.2.2 q z) dX4_store_135
  · refine lv_tableIn (off := 86) (tgt := 87) hx hb dX4_store_1 (by decide) (by decide) (by decide) (by decide) ?_
    refine lv_aload_n hx hb dX4_store_87 rfl (lv_at hl 0 rfl) ?_
    refine va_get (D := (dC, dI)) (ci := 4) (v := .ref b5) (C := RX4) (T := TX4) (N := 9) hx hb (ly_4 h hb0) (fun _ z => z) hown hK (hRo _ _ hS) 0 rfl rfl 5 (by decide) (k_37 h hb0) (fun _ z => z) rfl dX4_store_88 ?_
    refine lv_iload_n hx hb dX4_store_91 rfl (lv_at hl 2 rfl) ?_
    refine lv_iload_n hx hb dX4_store_92 rfl (lv_at hl 3 rfl) ?_
    refine lv_i2c hx hb dX4_store_93 rfl ?_
    refine va_cast hx hb hK hP hD hS 4 4 rfl rfl hi dX4_store_94 (fun H locs hP hD hS => ?_)
    have hP : va_P (dC, dI) vwCl [(b1, .inl (cA 0, 39, .inl (r0 g))), (b2, .inl (cA 1, 39, .inr (.inl (r1 g)))), (b3, .inl (cA 2, 39, .inl (r2 g))), (b4, .inl (cA 3, 39, .inl (r3 g))), (b5, .inl (cA 4, 39, .inl (upd (r4 g) x.toNatClampNeg (vp_nar .char ((v.toUInt32 % 65536).toInt32))))), (b6, .inl (cA 5, 39, .inl (r5 g))), (b7, .inl (cA 6, 39, .inr (.inr (.inl (r6 g))))), (b8, .inl (cA 7, 39, .inr (.inr (.inr (.inl (r7 g))))))] H := hP
    have hD : va_D A [(b1, .inl (cA 0, 39, .inl (r0 g))), (b2, .inl (cA 1, 39, .inr (.inl (r1 g)))), (b3, .inl (cA 2, 39, .inl (r2 g))), (b4, .inl (cA 3, 39, .inl (r3 g))), (b5, .inl (cA 4, 39, .inl (upd (r4 g) x.toNatClampNeg (vp_nar .char ((v.toUInt32 % 65536).toInt32))))), (b6, .inl (cA 5, 39, .inl (r5 g))), (b7, .inl (cA 6, 39, .inr (.inr (.inl (r6 g))))), (b8, .inl (cA 7, 39, .inr (.inr (.inr (.inl (r7 g))))))] := hD
    refine lv_goto (tgt := 135) hx hb dX4_store_95 (by decide) ?_
    exact W.vret hx hb hr (fun t ht _ => ⟨none, _, rfl, ⟨rfl, by rw [gsu_4, gs_0 (by decide), gs_1 (by decide), gs_2 (by decide), gs_3 (by decide), gs_5 (by decide), gs_6 (by decide), gs_7 (by decide)]⟩, by rw [ht]; exact hP, hD, hS.F ht⟩) (fun q z => hS.2.2 q z) dX4_store_135
  · refine lv_tableIn (off := 97) (tgt := 98) hx hb dX4_store_1 (by decide) (by decide) (by decide) (by decide) ?_
    refine lv_aload_n hx hb dX4_store_98 rfl (lv_at hl 0 rfl) ?_
    refine va_get (D := (dC, dI)) (ci := 4) (v := .ref b6) (C := RX4) (T := TX4) (N := 9) hx hb (ly_4 h hb0) (fun _ z => z) hown hK (hRo _ _ hS) 0 rfl rfl 6 (by decide) (k_38 h hb0) (fun _ z => z) rfl dX4_store_99 ?_
    refine lv_iload_n hx hb dX4_store_102 rfl (lv_at hl 2 rfl) ?_
    refine lv_iload_n hx hb dX4_store_103 rfl (lv_at hl 3 rfl) ?_
    refine lv_if_eq (tgt := 111) hx hb dX4_store_104 (by decide) (fun c_1 => ?_) (fun c_1 => ?_)
    · refine lv_iconst (v := 0) hx hb dX4_store_111 (by decide) ?_
      refine va_zast hx hb hK hP hD hS 5 5 rfl rfl hi dX4_store_112 (fun H locs hP hD hS => ?_)
      have hP : va_P (dC, dI) vwCl [(b1, .inl (cA 0, 39, .inl (r0 g))), (b2, .inl (cA 1, 39, .inr (.inl (r1 g)))), (b3, .inl (cA 2, 39, .inl (r2 g))), (b4, .inl (cA 3, 39, .inl (r3 g))), (b5, .inl (cA 4, 39, .inl (r4 g))), (b6, .inl (cA 5, 39, .inl (upd (r5 g) x.toNatClampNeg (vp_nar .boolean 0)))), (b7, .inl (cA 6, 39, .inr (.inr (.inl (r6 g))))), (b8, .inl (cA 7, 39, .inr (.inr (.inr (.inl (r7 g))))))] H := hP
      have hD : va_D A [(b1, .inl (cA 0, 39, .inl (r0 g))), (b2, .inl (cA 1, 39, .inr (.inl (r1 g)))), (b3, .inl (cA 2, 39, .inl (r2 g))), (b4, .inl (cA 3, 39, .inl (r3 g))), (b5, .inl (cA 4, 39, .inl (r4 g))), (b6, .inl (cA 5, 39, .inl (upd (r5 g) x.toNatClampNeg (vp_nar .boolean 0)))), (b7, .inl (cA 6, 39, .inr (.inr (.inl (r6 g))))), (b8, .inl (cA 7, 39, .inr (.inr (.inr (.inl (r7 g))))))] := hD
      refine lv_goto (tgt := 135) hx hb dX4_store_113 (by decide) ?_
      exact W.vret hx hb hr (fun t ht _ => ⟨none, _, rfl, ⟨rfl, by rw [gsu_5f c_1, gs_0 (by decide), gs_1 (by decide), gs_2 (by decide), gs_3 (by decide), gs_4 (by decide), gs_6 (by decide), gs_7 (by decide)]⟩, by rw [ht]; exact hP, hD, hS.F ht⟩) (fun q z => hS.2.2 q z) dX4_store_135
    · refine lv_iconst (v := 1) hx hb dX4_store_107 (by decide) ?_
      refine lv_goto (tgt := 112) hx hb dX4_store_108 (by decide) ?_
      refine va_zast hx hb hK hP hD hS 5 5 rfl rfl hi dX4_store_112 (fun H locs hP hD hS => ?_)
      have hP : va_P (dC, dI) vwCl [(b1, .inl (cA 0, 39, .inl (r0 g))), (b2, .inl (cA 1, 39, .inr (.inl (r1 g)))), (b3, .inl (cA 2, 39, .inl (r2 g))), (b4, .inl (cA 3, 39, .inl (r3 g))), (b5, .inl (cA 4, 39, .inl (r4 g))), (b6, .inl (cA 5, 39, .inl (upd (r5 g) x.toNatClampNeg (vp_nar .boolean 1)))), (b7, .inl (cA 6, 39, .inr (.inr (.inl (r6 g))))), (b8, .inl (cA 7, 39, .inr (.inr (.inr (.inl (r7 g))))))] H := hP
      have hD : va_D A [(b1, .inl (cA 0, 39, .inl (r0 g))), (b2, .inl (cA 1, 39, .inr (.inl (r1 g)))), (b3, .inl (cA 2, 39, .inl (r2 g))), (b4, .inl (cA 3, 39, .inl (r3 g))), (b5, .inl (cA 4, 39, .inl (r4 g))), (b6, .inl (cA 5, 39, .inl (upd (r5 g) x.toNatClampNeg (vp_nar .boolean 1)))), (b7, .inl (cA 6, 39, .inr (.inr (.inl (r6 g))))), (b8, .inl (cA 7, 39, .inr (.inr (.inr (.inl (r7 g))))))] := hD
      refine lv_goto (tgt := 135) hx hb dX4_store_113 (by decide) ?_
      exact W.vret hx hb hr (fun t ht _ => ⟨none, _, rfl, ⟨rfl, by rw [gsu_5t c_1, gs_0 (by decide), gs_1 (by decide), gs_2 (by decide), gs_3 (by decide), gs_4 (by decide), gs_6 (by decide), gs_7 (by decide)]⟩, by rw [ht]; exact hP, hD, hS.F ht⟩) (fun q z => hS.2.2 q z) dX4_store_135
  · refine lv_tableIn (off := 115) (tgt := 116) hx hb dX4_store_1 (by decide) (by decide) (by decide) (by decide) ?_
    refine lv_aload_n hx hb dX4_store_116 rfl (lv_at hl 0 rfl) ?_
    refine va_get (D := (dC, dI)) (ci := 4) (v := .ref b7) (C := RX4) (T := TX4) (N := 9) hx hb (ly_4 h hb0) (fun _ z => z) hown hK (hRo _ _ hS) 0 rfl rfl 7 (by decide) (k_39 h hb0) (fun _ z => z) rfl dX4_store_117 ?_
    refine lv_iload_n hx hb dX4_store_120 rfl (lv_at hl 2 rfl) ?_
    refine lv_iload_n hx hb dX4_store_121 rfl (lv_at hl 3 rfl) ?_
    refine lv_i2f hx hb dX4_store_122 ?_
    refine va_fast hx hb hK hP hD hS 6 6 rfl rfl hi dX4_store_123 (fun H locs hP hD hS => ?_)
    have hP : va_P (dC, dI) vwCl [(b1, .inl (cA 0, 39, .inl (r0 g))), (b2, .inl (cA 1, 39, .inr (.inl (r1 g)))), (b3, .inl (cA 2, 39, .inl (r2 g))), (b4, .inl (cA 3, 39, .inl (r3 g))), (b5, .inl (cA 4, 39, .inl (r4 g))), (b6, .inl (cA 5, 39, .inl (r5 g))), (b7, .inl (cA 6, 39, .inr (.inr (.inl (vf_upd (r6 g) x.toNatClampNeg (FP.i2f v)))))), (b8, .inl (cA 7, 39, .inr (.inr (.inr (.inl (r7 g))))))] H := hP
    have hD : va_D A [(b1, .inl (cA 0, 39, .inl (r0 g))), (b2, .inl (cA 1, 39, .inr (.inl (r1 g)))), (b3, .inl (cA 2, 39, .inl (r2 g))), (b4, .inl (cA 3, 39, .inl (r3 g))), (b5, .inl (cA 4, 39, .inl (r4 g))), (b6, .inl (cA 5, 39, .inl (r5 g))), (b7, .inl (cA 6, 39, .inr (.inr (.inl (vf_upd (r6 g) x.toNatClampNeg (FP.i2f v)))))), (b8, .inl (cA 7, 39, .inr (.inr (.inr (.inl (r7 g))))))] := hD
    refine lv_goto (tgt := 135) hx hb dX4_store_124 (by decide) ?_
    exact W.vret hx hb hr (fun t ht _ => ⟨none, _, rfl, ⟨rfl, by rw [gsu_6, gs_0 (by decide), gs_1 (by decide), gs_2 (by decide), gs_3 (by decide), gs_4 (by decide), gs_5 (by decide), gs_7 (by decide)]⟩, by rw [ht]; exact hP, hD, hS.F ht⟩) (fun q z => hS.2.2 q z) dX4_store_135
  · refine lv_tableOut (tgt := 127) hx hb dX4_store_1 (by decide) (by decide) ?_
    refine lv_aload_n hx hb dX4_store_127 rfl (lv_at hl 0 rfl) ?_
    refine va_get (D := (dC, dI)) (ci := 4) (v := .ref b8) (C := RX4) (T := TX4) (N := 9) hx hb (ly_4 h hb0) (fun _ z => z) hown hK (hRo _ _ hS) 0 rfl rfl 8 (by decide) (k_40 h hb0) (fun _ z => z) rfl dX4_store_128 ?_
    refine lv_iload_n hx hb dX4_store_131 rfl (lv_at hl 2 rfl) ?_
    refine lv_iload_n hx hb dX4_store_132 rfl (lv_at hl 3 rfl) ?_
    refine lv_i2d hx hb dX4_store_133 ?_
    refine va_dast hx hb hK hP hD hS 7 7 rfl rfl hi dX4_store_134 (fun H locs hP hD hS => ?_)
    have hP : va_P (dC, dI) vwCl [(b1, .inl (cA 0, 39, .inl (r0 g))), (b2, .inl (cA 1, 39, .inr (.inl (r1 g)))), (b3, .inl (cA 2, 39, .inl (r2 g))), (b4, .inl (cA 3, 39, .inl (r3 g))), (b5, .inl (cA 4, 39, .inl (r4 g))), (b6, .inl (cA 5, 39, .inl (r5 g))), (b7, .inl (cA 6, 39, .inr (.inr (.inl (r6 g))))), (b8, .inl (cA 7, 39, .inr (.inr (.inr (.inl (vf_upd (r7 g) x.toNatClampNeg (FP.i2d v)))))))] H := hP
    have hD : va_D A [(b1, .inl (cA 0, 39, .inl (r0 g))), (b2, .inl (cA 1, 39, .inr (.inl (r1 g)))), (b3, .inl (cA 2, 39, .inl (r2 g))), (b4, .inl (cA 3, 39, .inl (r3 g))), (b5, .inl (cA 4, 39, .inl (r4 g))), (b6, .inl (cA 5, 39, .inl (r5 g))), (b7, .inl (cA 6, 39, .inr (.inr (.inl (r6 g))))), (b8, .inl (cA 7, 39, .inr (.inr (.inr (.inl (vf_upd (r7 g) x.toNatClampNeg (FP.i2d v)))))))] := hD
    exact W.vret hx hb hr (fun t ht _ => ⟨none, _, rfl, ⟨rfl, by rw [gsu_7, gs_0 (by decide), gs_1 (by decide), gs_2 (by decide), gs_3 (by decide), gs_4 (by decide), gs_5 (by decide), gs_6 (by decide)]⟩, by rw [ht]; exact hP, hD, hS.F ht⟩) (fun q z => hS.2.2 q z) dX4_store_135
set_option maxHeartbeats 4000000 in
set_option maxRecDepth 100000 in
theorem c_renew {l : Launch} {s0 : State} {a0 : Array Value} {dC : Nat → ClassId} {dI : Nat → Nat → Nat} {cA : Nat → ClassId} (h : xC l s0 a0 dC dI cA) (ro b0 b1 b2 b3 b4 b5 b6 b7 b8 : Nat) (n : Nat → Int32) (g : Nat → Nat → Int32) (K N : Nat) (sz : Nat) (hK8 : K < 8) (hN : N < 40) : Met l yX4_renew [Cond.code yX4_renew cX4_renew 4 none] ({ frames := 1, cells := 0, slots := 0, locals := 30 } : Room) (xPM s0 (dC, dI) [.ref ro, .int (nI K), .int (nI N)] [(ro, .inr (4, [.ref b0, .ref b1, .ref b2, .ref b3, .ref b4, .ref b5, .ref b6, .ref b7, .ref b8]))] [(b0, .inl (cA 0, 8, .inl n)), (b1, .inl (cA 0, 39, .inl (r0 g))), (b2, .inl (cA 1, 39, .inr (.inl (r1 g)))), (b3, .inl (cA 2, 39, .inl (r2 g))), (b4, .inl (cA 3, 39, .inl (r3 g))), (b5, .inl (cA 4, 39, .inl (r4 g))), (b6, .inl (cA 5, 39, .inl (r5 g))), (b7, .inl (cA 6, 39, .inr (.inr (.inl (r6 g))))), (b8, .inl (cA 7, 39, .inr (.inr (.inr (.inl (r7 g))))))] sz) (xQM (dC, dI) (va_A [(b0, .inl (cA 0, 8, .inl n)), (b1, .inl (cA 0, 39, .inl (r0 g))), (b2, .inl (cA 1, 39, .inr (.inl (r1 g)))), (b3, .inl (cA 2, 39, .inl (r2 g))), (b4, .inl (cA 3, 39, .inl (r3 g))), (b5, .inl (cA 4, 39, .inl (r4 g))), (b6, .inl (cA 5, 39, .inl (r5 g))), (b7, .inl (cA 6, 39, .inr (.inr (.inl (r6 g))))), (b8, .inl (cA 7, 39, .inr (.inr (.inr (.inl (r7 g))))))] sz) (fun r w1 => r = none ∧ w1 = [(b0, .inl (cA 0, 8, .inl (upd n K (nI N)))), (b1, .inl (cA 0, 39, .inl (r0 (gz g K N)))), (b2, .inl (cA 1, 39, .inr (.inl (r1 (gz g K N))))), (b3, .inl (cA 2, 39, .inl (r2 (gz g K N)))), (b4, .inl (cA 3, 39, .inl (r3 (gz g K N)))), (b5, .inl (cA 4, 39, .inl (r4 (gz g K N)))), (b6, .inl (cA 5, 39, .inl (r5 (gz g K N)))), (b7, .inl (cA 6, 39, .inr (.inr (.inl (r6 (gz g K N)))))), (b8, .inl (cA 7, 39, .inr (.inr (.inr (.inl (r7 (gz g K N)))))))])) 0 0 (va_A [(b0, .inl (cA 0, 8, .inl n)), (b1, .inl (cA 0, 39, .inl (r0 g))), (b2, .inl (cA 1, 39, .inr (.inl (r1 g)))), (b3, .inl (cA 2, 39, .inl (r2 g))), (b4, .inl (cA 3, 39, .inl (r3 g))), (b5, .inl (cA 4, 39, .inl (r4 g))), (b6, .inl (cA 5, 39, .inl (r5 g))), (b7, .inl (cA 6, 39, .inr (.inr (.inl (r6 g))))), (b8, .inl (cA 7, 39, .inr (.inr (.inr (.inl (r7 g))))))] sz) := by
  refine Met.ofW (cc := cX4_renew) (maxL := 4) (ret := none) (by decide) rfl ?_
  intro p e s m args below meth c s₁ B hml hv
  obtain ⟨rfl, rfl, hb0, hPr, hP, hD0⟩ := hv
  have hx := B.exec
  have hb := B.bytes
  have hr := B.returns
  have hown : s.vm.findClass RX4 = some m.cls := findClass_of_methodNamed B.named
  have hlocks := B.notSynchronized
  have hK := h.K hb0
  have hS : va_S (va_A [(b0, .inl (cA 0, 8, .inl n)), (b1, .inl (cA 0, 39, .inl (r0 g))), (b2, .inl (cA 1, 39, .inr (.inl (r1 g)))), (b3, .inl (cA 2, 39, .inl (r2 g))), (b4, .inl (cA 3, 39, .inl (r3 g))), (b5, .inl (cA 4, 39, .inl (r4 g))), (b6, .inl (cA 5, 39, .inl (r5 g))), (b7, .inl (cA 6, 39, .inr (.inr (.inl (r6 g))))), (b8, .inl (cA 7, 39, .inr (.inr (.inr (.inl (r7 g))))))] s.heap.size) s.heap s.heap [] := va_S.rf
  obtain ⟨A, hAe, hD, hA, hz, hRo, hwk, hnR⟩ := xM_start hb0 hPr hP hD0
  rw [hAe] at hS ⊢
  have hl := lv_entry ([.ref ro, .int (nI K), .int (nI N)]) (n := 4) (Nat.le_of_ble_eq_true rfl)
  rw [lg_entry_eq]
  generalize (lg_sl ([.ref ro, .int (nI K), .int (nI N)]) ++ List.replicate (4 - (lg_sl ([.ref ro, .int (nI K), .int (nI N)])).length) Slot.unset).toArray = ls at hl ⊢
  have hl : lv_has ls 4 [(0, .ref ro), (1, .int (nI K)), (2, .int (nI N))] := hl
  refine lv_iconst (v := 0) hx hb dX4_renew_0 (by decide) ?_
  refine lv_istore_n (lv' := [(3, .int 0), (0, .ref ro), (1, .int (nI K)), (2, .int (nI N))]) hx hb dX4_renew_1 rfl hl (by decide) rfl (fun ls hl => ?_)
  refine xloop (σ := Array Slot × Heap × List Loc) (fun i z => lv_has z.1 4 [(3, .int (nI i)), (0, .ref ro), (1, .int (nI K)), (2, .int (nI N))] ∧ va_P (dC, dI) vwCl [(b0, .inl (cA 0, 8, .inl n)), (b1, .inl (cA 0, 39, .inl (r0 (gz g K i)))), (b2, .inl (cA 1, 39, .inr (.inl (r1 (gz g K i))))), (b3, .inl (cA 2, 39, .inl (r2 (gz g K i)))), (b4, .inl (cA 3, 39, .inl (r3 (gz g K i)))), (b5, .inl (cA 4, 39, .inl (r4 (gz g K i)))), (b6, .inl (cA 5, 39, .inl (r5 (gz g K i)))), (b7, .inl (cA 6, 39, .inr (.inr (.inl (r6 (gz g K i)))))), (b8, .inl (cA 7, 39, .inr (.inr (.inr (.inl (r7 (gz g K i)))))))] z.2.1 ∧ va_D A [(b0, .inl (cA 0, 8, .inl n)), (b1, .inl (cA 0, 39, .inl (r0 (gz g K i)))), (b2, .inl (cA 1, 39, .inr (.inl (r1 (gz g K i))))), (b3, .inl (cA 2, 39, .inl (r2 (gz g K i)))), (b4, .inl (cA 3, 39, .inl (r3 (gz g K i)))), (b5, .inl (cA 4, 39, .inl (r4 (gz g K i)))), (b6, .inl (cA 5, 39, .inl (r5 (gz g K i)))), (b7, .inl (cA 6, 39, .inr (.inr (.inl (r6 (gz g K i)))))), (b8, .inl (cA 7, 39, .inr (.inr (.inr (.inl (r7 (gz g K i)))))))] ∧ va_S A s.heap z.2.1 z.2.2) (fun z => W p l e _ s m _ below meth c z.2.1 z.2.2 _ _ _ (F0 m 2 z.1 [])) N ?_ ?_ (ls, _, _) ⟨hl, by rw [gz_0]; exact hP, by rw [gz_0]; exact hD, hS⟩
  · rintro i ⟨ls, H, locs⟩ hi ⟨hl, hP, hD, hS⟩ ih
    have hl : lv_has ls 4 [(3, .int (nI i)), (0, .ref ro), (1, .int (nI K)), (2, .int (nI N))] := hl
    have hP : va_P (dC, dI) vwCl [(b0, .inl (cA 0, 8, .inl n)), (b1, .inl (cA 0, 39, .inl (r0 (gz g K i)))), (b2, .inl (cA 1, 39, .inr (.inl (r1 (gz g K i))))), (b3, .inl (cA 2, 39, .inl (r2 (gz g K i)))), (b4, .inl (cA 3, 39, .inl (r3 (gz g K i)))), (b5, .inl (cA 4, 39, .inl (r4 (gz g K i)))), (b6, .inl (cA 5, 39, .inl (r5 (gz g K i)))), (b7, .inl (cA 6, 39, .inr (.inr (.inl (r6 (gz g K i)))))), (b8, .inl (cA 7, 39, .inr (.inr (.inr (.inl (r7 (gz g K i)))))))] H := hP
    have hD : va_D A [(b0, .inl (cA 0, 8, .inl n)), (b1, .inl (cA 0, 39, .inl (r0 (gz g K i)))), (b2, .inl (cA 1, 39, .inr (.inl (r1 (gz g K i))))), (b3, .inl (cA 2, 39, .inl (r2 (gz g K i)))), (b4, .inl (cA 3, 39, .inl (r3 (gz g K i)))), (b5, .inl (cA 4, 39, .inl (r4 (gz g K i)))), (b6, .inl (cA 5, 39, .inl (r5 (gz g K i)))), (b7, .inl (cA 6, 39, .inr (.inr (.inl (r6 (gz g K i)))))), (b8, .inl (cA 7, 39, .inr (.inr (.inr (.inl (r7 (gz g K i)))))))] := hD
    have hS : va_S A s.heap H locs := hS
    show W p l e _ s m _ below meth c H locs _ _ _ (F0 m 2 ls [])
    refine lv_iload_n hx hb dX4_renew_2 rfl (lv_at hl 0 rfl) ?_
    refine lv_iload_n hx hb dX4_renew_3 rfl (lv_at hl 3 rfl) ?_
    refine lv_icmp_ge (tgt := 20) hx hb dX4_renew_4 (by decide) (fun c_1 => ?_) (fun c_1 => ?_)
    · exact absurd c_1 (nI_ge hi (by omega))
    · refine lv_aload_n hx hb dX4_renew_7 rfl (lv_at hl 1 rfl) ?_
      refine lv_iload_n hx hb dX4_renew_8 rfl (lv_at hl 2 rfl) ?_
      refine lv_iload_n hx hb dX4_renew_9 rfl (lv_at hl 0 rfl) ?_
      refine lv_iconst (v := 0) hx hb dX4_renew_10 (by decide) ?_
      refine xm_of (wc := [(b1, .inl (cA 0, 39, .inl (r0 (gz g K i)))), (b2, .inl (cA 1, 39, .inr (.inl (r1 (gz g K i))))), (b3, .inl (cA 2, 39, .inl (r2 (gz g K i)))), (b4, .inl (cA 3, 39, .inl (r3 (gz g K i)))), (b5, .inl (cA 4, 39, .inl (r4 (gz g K i)))), (b6, .inl (cA 5, 39, .inl (r5 (gz g K i)))), (b7, .inl (cA 6, 39, .inr (.inr (.inl (r6 (gz g K i)))))), (b8, .inl (cA 7, 39, .inr (.inr (.inr (.inl (r7 (gz g K i)))))))]) (wo := [(b0, .inl (cA 0, 8, .inl n))]) (va_runV (As := [.int (nI K), .int (nI i), .int 0]) (rest := []) ⟨hx, hb, hml, hown, xTs⟩ (c_store h ro b0 b1 b2 b3 b4 b5 b6 b7 b8 (gz g K i) K (nI i) 0 _ hK8 (vp_in_nI (by omega) (by decide))) ⟨xB (n := 3) (k_268 h hb0) (k_2 h hb0) (k_307 h hb0) (by decide) rfl rfl rfl (by decide) (by decide), (k_266 h hb0), (k_267 h hb0)⟩ (xpMV (wr := [(ro, .inr (4, [.ref b0, .ref b1, .ref b2, .ref b3, .ref b4, .ref b5, .ref b6, .ref b7, .ref b8]))]) (wc := [(b1, .inl (cA 0, 39, .inl (r0 (gz g K i)))), (b2, .inl (cA 1, 39, .inr (.inl (r1 (gz g K i))))), (b3, .inl (cA 2, 39, .inl (r2 (gz g K i)))), (b4, .inl (cA 3, 39, .inl (r3 (gz g K i)))), (b5, .inl (cA 4, 39, .inl (r4 (gz g K i)))), (b6, .inl (cA 5, 39, .inl (r5 (gz g K i)))), (b7, .inl (cA 6, 39, .inr (.inr (.inl (r6 (gz g K i)))))), (b8, .inl (cA 7, 39, .inr (.inr (.inr (.inl (r7 (gz g K i)))))))]) hb0 hS hz (va_P.sub (hRo _ _ hS) [0] rfl) (va_P.sub hP [1, 2, 3, 4, 5, 6, 7, 8] rfl) (va_D.sub (xDD (xDl hD0) hD hz hnR) [0, 2, 3, 4, 5, 6, 7, 8, 9] rfl rfl) (va_recv hK (hRo _ _ hS) (ci := 4) (q0 := 0) rfl rfl)) rfl rfl hl.1 rfl (lv_room (Nat.le_of_ble_eq_true rfl)) dX4_renew_11 ⟨(Nat.le_of_ble_eq_true rfl), (Nat.le_of_ble_eq_true rfl)⟩) hP hD hS hA [1, 2, 3, 4, 5, 6, 7, 8] [0] rfl rfl rfl (by decide) (fun r w1 H locs hΦ hP hD hS => ?_)
      obtain ⟨rfl, rfl⟩ := hΦ
      have hP : va_P (dC, dI) vwCl [(b0, .inl (cA 0, 8, .inl n)), (b1, .inl (cA 0, 39, .inl (r0 (gset (gz g K i) K (nI i).toNatClampNeg 0)))), (b2, .inl (cA 1, 39, .inr (.inl (r1 (gset (gz g K i) K (nI i).toNatClampNeg 0))))), (b3, .inl (cA 2, 39, .inl (r2 (gset (gz g K i) K (nI i).toNatClampNeg 0)))), (b4, .inl (cA 3, 39, .inl (r3 (gset (gz g K i) K (nI i).toNatClampNeg 0)))), (b5, .inl (cA 4, 39, .inl (r4 (gset (gz g K i) K (nI i).toNatClampNeg 0)))), (b6, .inl (cA 5, 39, .inl (r5 (gset (gz g K i) K (nI i).toNatClampNeg 0)))), (b7, .inl (cA 6, 39, .inr (.inr (.inl (r6 (gset (gz g K i) K (nI i).toNatClampNeg 0)))))), (b8, .inl (cA 7, 39, .inr (.inr (.inr (.inl (r7 (gset (gz g K i) K (nI i).toNatClampNeg 0)))))))] H := hP
      have hD : va_D A [(b0, .inl (cA 0, 8, .inl n)), (b1, .inl (cA 0, 39, .inl (r0 (gset (gz g K i) K (nI i).toNatClampNeg 0)))), (b2, .inl (cA 1, 39, .inr (.inl (r1 (gset (gz g K i) K (nI i).toNatClampNeg 0))))), (b3, .inl (cA 2, 39, .inl (r2 (gset (gz g K i) K (nI i).toNatClampNeg 0)))), (b4, .inl (cA 3, 39, .inl (r3 (gset (gz g K i) K (nI i).toNatClampNeg 0)))), (b5, .inl (cA 4, 39, .inl (r4 (gset (gz g K i) K (nI i).toNatClampNeg 0)))), (b6, .inl (cA 5, 39, .inl (r5 (gset (gz g K i) K (nI i).toNatClampNeg 0)))), (b7, .inl (cA 6, 39, .inr (.inr (.inl (r6 (gset (gz g K i) K (nI i).toNatClampNeg 0)))))), (b8, .inl (cA 7, 39, .inr (.inr (.inr (.inl (r7 (gset (gz g K i) K (nI i).toNatClampNeg 0)))))))] := hD
      refine lv_iinc (lv' := [(3, .int (nI (i + 1))), (0, .ref ro), (1, .int (nI K)), (2, .int (nI N))]) hx hb dX4_renew_14 hl (k := 0) rfl (nI_1 _) (by decide) rfl (fun ls hl => ?_)
      refine lv_goto (tgt := 2) hx hb dX4_renew_17 (by decide) ?_
      rw [nI_clamp (by omega), gz_s] at hP hD
      exact ih (ls, _, _) ⟨hl, hP, hD, hS⟩
  · rintro ⟨ls, H, locs⟩ ⟨hl, hP, hD, hS⟩
    have hl : lv_has ls 4 [(3, .int (nI N)), (0, .ref ro), (1, .int (nI K)), (2, .int (nI N))] := hl
    have hP : va_P (dC, dI) vwCl [(b0, .inl (cA 0, 8, .inl n)), (b1, .inl (cA 0, 39, .inl (r0 (gz g K N)))), (b2, .inl (cA 1, 39, .inr (.inl (r1 (gz g K N))))), (b3, .inl (cA 2, 39, .inl (r2 (gz g K N)))), (b4, .inl (cA 3, 39, .inl (r3 (gz g K N)))), (b5, .inl (cA 4, 39, .inl (r4 (gz g K N)))), (b6, .inl (cA 5, 39, .inl (r5 (gz g K N)))), (b7, .inl (cA 6, 39, .inr (.inr (.inl (r6 (gz g K N)))))), (b8, .inl (cA 7, 39, .inr (.inr (.inr (.inl (r7 (gz g K N)))))))] H := hP
    have hD : va_D A [(b0, .inl (cA 0, 8, .inl n)), (b1, .inl (cA 0, 39, .inl (r0 (gz g K N)))), (b2, .inl (cA 1, 39, .inr (.inl (r1 (gz g K N))))), (b3, .inl (cA 2, 39, .inl (r2 (gz g K N)))), (b4, .inl (cA 3, 39, .inl (r3 (gz g K N)))), (b5, .inl (cA 4, 39, .inl (r4 (gz g K N)))), (b6, .inl (cA 5, 39, .inl (r5 (gz g K N)))), (b7, .inl (cA 6, 39, .inr (.inr (.inl (r6 (gz g K N)))))), (b8, .inl (cA 7, 39, .inr (.inr (.inr (.inl (r7 (gz g K N)))))))] := hD
    have hS : va_S A s.heap H locs := hS
    show W p l e _ s m _ below meth c H locs _ _ _ (F0 m 2 ls [])
    refine lv_iload_n hx hb dX4_renew_2 rfl (lv_at hl 0 rfl) ?_
    refine lv_iload_n hx hb dX4_renew_3 rfl (lv_at hl 3 rfl) ?_
    refine lv_icmp_ge (tgt := 20) hx hb dX4_renew_4 (by decide) (fun c_2 => ?_) (fun c_2 => ?_)
    · refine lv_aload_n hx hb dX4_renew_20 rfl (lv_at hl 1 rfl) ?_
      refine va_get (D := (dC, dI)) (ci := 4) (v := .ref b0) (C := RX4) (T := TX4) (N := 9) hx hb (ly_4 h hb0) (fun _ z => z) hown hK (hRo _ _ hS) 0 rfl rfl 0 (by decide) (k_32 h hb0) (fun _ z => z) rfl dX4_renew_21 ?_
      refine lv_iload_n hx hb dX4_renew_24 rfl (lv_at hl 2 rfl) ?_
      refine lv_iload_n hx hb dX4_renew_25 rfl (lv_at hl 3 rfl) ?_
      refine va_iast hx hb hK hP hD hS 0 0 rfl rfl (vp_in_nI hK8 (by decide)) dX4_renew_26 (fun H locs hP hD hS => ?_)
      have hP : va_P (dC, dI) vwCl [(b0, .inl (cA 0, 8, .inl (upd n (nI K).toNatClampNeg (nI N)))), (b1, .inl (cA 0, 39, .inl (r0 (gz g K N)))), (b2, .inl (cA 1, 39, .inr (.inl (r1 (gz g K N))))), (b3, .inl (cA 2, 39, .inl (r2 (gz g K N)))), (b4, .inl (cA 3, 39, .inl (r3 (gz g K N)))), (b5, .inl (cA 4, 39, .inl (r4 (gz g K N)))), (b6, .inl (cA 5, 39, .inl (r5 (gz g K N)))), (b7, .inl (cA 6, 39, .inr (.inr (.inl (r6 (gz g K N)))))), (b8, .inl (cA 7, 39, .inr (.inr (.inr (.inl (r7 (gz g K N)))))))] H := hP
      have hD : va_D A [(b0, .inl (cA 0, 8, .inl (upd n (nI K).toNatClampNeg (nI N)))), (b1, .inl (cA 0, 39, .inl (r0 (gz g K N)))), (b2, .inl (cA 1, 39, .inr (.inl (r1 (gz g K N))))), (b3, .inl (cA 2, 39, .inl (r2 (gz g K N)))), (b4, .inl (cA 3, 39, .inl (r3 (gz g K N)))), (b5, .inl (cA 4, 39, .inl (r4 (gz g K N)))), (b6, .inl (cA 5, 39, .inl (r5 (gz g K N)))), (b7, .inl (cA 6, 39, .inr (.inr (.inl (r6 (gz g K N)))))), (b8, .inl (cA 7, 39, .inr (.inr (.inr (.inl (r7 (gz g K N)))))))] := hD
      exact W.vret hx hb hr (fun t ht _ => ⟨none, _, rfl, ⟨rfl, by rw [nI_clamp (by omega)]⟩, by rw [ht]; exact hP, hD, hS.F ht⟩) (fun q z => hS.2.2 q z) dX4_renew_27
    · exact absurd (nI_le (Nat.le_refl N) (by omega)) c_2
set_option maxHeartbeats 4000000 in
set_option maxRecDepth 100000 in
theorem c_grenew {l : Launch} {s0 : State} {a0 : Array Value} {dC : Nat → ClassId} {dI : Nat → Nat → Nat} {cA : Nat → ClassId} (h : xC l s0 a0 dC dI cA) (gr gc : Nat) (z1 z2 z3 x y : Int32) (sz : Nat)  : Met l yX3_renew [Cond.code yX3_renew cX3_renew 3 none] ({ frames := 0, cells := 0, slots := 0, locals := 0 } : Room) (xPM s0 (dC, dI) [.ref gr, .int x, .int y] [] [(gr, .inr (3, [.ref gc, .int z1, .int z2, .int z3]))] sz) (xQM (dC, dI) (va_A [(gr, .inr (3, [.ref gc, .int z1, .int z2, .int z3]))] sz) (fun r w1 => r = none ∧ w1 = [(gr, .inr (3, [.ref gc, .int 1, .int x, .int y]))])) 0 0 (va_A [(gr, .inr (3, [.ref gc, .int z1, .int z2, .int z3]))] sz) := by
  refine Met.ofW (cc := cX3_renew) (maxL := 3) (ret := none) (by decide) rfl ?_
  intro p e s m args below meth c s₁ B hml hv
  obtain ⟨rfl, rfl, hb0, hPr, hP, hD0⟩ := hv
  have hx := B.exec
  have hb := B.bytes
  have hr := B.returns
  have hown : s.vm.findClass RX3 = some m.cls := findClass_of_methodNamed B.named
  have hlocks := B.notSynchronized
  have hK := h.K hb0
  have hS : va_S (va_A [(gr, .inr (3, [.ref gc, .int z1, .int z2, .int z3]))] s.heap.size) s.heap s.heap [] := va_S.rf
  obtain ⟨A, hAe, hD, hA, hz, hRo, hwk, hnR⟩ := xM_start hb0 hPr hP hD0
  rw [hAe] at hS ⊢
  have hl := lv_entry ([.ref gr, .int x, .int y]) (n := 3) (Nat.le_of_ble_eq_true rfl)
  rw [lg_entry_eq]
  generalize (lg_sl ([.ref gr, .int x, .int y]) ++ List.replicate (3 - (lg_sl ([.ref gr, .int x, .int y])).length) Slot.unset).toArray = ls at hl ⊢
  have hl : lv_has ls 3 [(0, .ref gr), (1, .int x), (2, .int y)] := hl
  refine lv_aload_n hx hb dX3_renew_0 rfl (lv_at hl 0 rfl) ?_
  refine lv_iconst (v := 1) hx hb dX3_renew_1 (by decide) ?_
  refine va_put (D := (dC, dI)) (ci := 3) (v := .int 1) (ty := .boolean) (C := RX3) (T := TX3) (N := 4) hx hb (ly_3 h hb0) (fun _ z => z) tyX3 tyX3_ok nmX3 hown hK hP hD hS 0 rfl rfl 1 (by decide) (k_77 h hb0) (fun _ z => z) rfl (by decide +kernel) rfl rfl (Nat.le_of_ble_eq_true rfl) dX3_renew_2 (fun H locs hP hD hS => ?_)
  have hP : va_P (dC, dI) vwCl [(gr, .inr (3, [.ref gc, .int 1, .int z2, .int z3]))] H := hP
  have hD : va_D A [(gr, .inr (3, [.ref gc, .int 1, .int z2, .int z3]))] := hD
  refine lv_aload_n hx hb dX3_renew_5 rfl (lv_at hl 0 rfl) ?_
  refine lv_iload_n hx hb dX3_renew_6 rfl (lv_at hl 1 rfl) ?_
  refine va_put (D := (dC, dI)) (ci := 3) (v := .int x) (ty := .int) (C := RX3) (T := TX3) (N := 4) hx hb (ly_3 h hb0) (fun _ z => z) tyX3 tyX3_ok nmX3 hown hK hP hD hS 0 rfl rfl 2 (by decide) (k_78 h hb0) (fun _ z => z) rfl (by decide +kernel) rfl rfl (Nat.le_of_ble_eq_true rfl) dX3_renew_7 (fun H locs hP hD hS => ?_)
  have hP : va_P (dC, dI) vwCl [(gr, .inr (3, [.ref gc, .int 1, .int x, .int z3]))] H := hP
  have hD : va_D A [(gr, .inr (3, [.ref gc, .int 1, .int x, .int z3]))] := hD
  refine lv_aload_n hx hb dX3_renew_10 rfl (lv_at hl 0 rfl) ?_
  refine lv_iload_n hx hb dX3_renew_11 rfl (lv_at hl 2 rfl) ?_
  refine va_put (D := (dC, dI)) (ci := 3) (v := .int y) (ty := .int) (C := RX3) (T := TX3) (N := 4) hx hb (ly_3 h hb0) (fun _ z => z) tyX3 tyX3_ok nmX3 hown hK hP hD hS 0 rfl rfl 3 (by decide) (k_79 h hb0) (fun _ z => z) rfl (by decide +kernel) rfl rfl (Nat.le_of_ble_eq_true rfl) dX3_renew_12 (fun H locs hP hD hS => ?_)
  have hP : va_P (dC, dI) vwCl [(gr, .inr (3, [.ref gc, .int 1, .int x, .int y]))] H := hP
  have hD : va_D A [(gr, .inr (3, [.ref gc, .int 1, .int x, .int y]))] := hD
  exact W.vret hx hb hr (fun t ht _ => ⟨none, _, rfl, ⟨rfl, rfl⟩, by rw [ht]; exact hP, hD, hS.F ht⟩) (fun q z => hS.2.2 q z) dX3_renew_15
def pz (f : Nat → Option Nat) (n : Nat) : Nat → Option Nat := fun i => if i < n then none else f i
theorem pz_0 (f : Nat → Option Nat) : pz f 0 = f := by funext i; simp [pz]
theorem pz_s (f : Nat → Option Nat) (i : Nat) : va_up (pz f i) i none = pz f (i + 1) := by
  funext j
  by_cases h : j = i
  · rw [h, va_up_self]; simp [pz]
  · rw [va_up_ne _ _ h]
    by_cases h3 : j < i
    · simp [pz, h3, show j < i + 1 by omega]
    · simp [pz, h3, show ¬ j < i + 1 by omega]
set_option maxHeartbeats 4000000 in
set_option maxRecDepth 100000 in
theorem c_brenew {l : Launch} {s0 : State} {a0 : Array Value} {dC : Nat → ClassId} {dI : Nat → Nat → Nat} {cA : Nat → ClassId} (h : xC l s0 a0 dC dI cA) (br pl : Nat) (z1 z2 z3 y : Int32) (f : Nat → Option Nat) (N : Nat) (sz : Nat) (hN : N < 20) (h01 : y = 0 ∨ y = 1) : Met l yX1_renew [Cond.code yX1_renew cX1_renew 4 none] ({ frames := 0, cells := 0, slots := 0, locals := 0 } : Room) (xPM s0 (dC, dI) [.ref br, .int (nI N), .int y] [] [(br, .inr (1, [.ref pl, .int z1, .int z2, .int z3])), (pl, .inl (cA 8, 19, .inr (.inr (.inr (.inr f)))))] sz) (xQM (dC, dI) (va_A [(br, .inr (1, [.ref pl, .int z1, .int z2, .int z3])), (pl, .inl (cA 8, 19, .inr (.inr (.inr (.inr f)))))] sz) (fun r w1 => r = none ∧ w1 = [(br, .inr (1, [.ref pl, .int 1, .int y, .int (nI N)])), (pl, .inl (cA 8, 19, .inr (.inr (.inr (.inr (pz f N))))))])) 0 0 (va_A [(br, .inr (1, [.ref pl, .int z1, .int z2, .int z3])), (pl, .inl (cA 8, 19, .inr (.inr (.inr (.inr f)))))] sz) := by
  refine Met.ofW (cc := cX1_renew) (maxL := 4) (ret := none) (by decide) rfl ?_
  intro p e s m args below meth c s₁ B hml hv
  obtain ⟨rfl, rfl, hb0, hPr, hP, hD0⟩ := hv
  have hx := B.exec
  have hb := B.bytes
  have hr := B.returns
  have hown : s.vm.findClass RX1 = some m.cls := findClass_of_methodNamed B.named
  have hlocks := B.notSynchronized
  have hK := h.K hb0
  have hS : va_S (va_A [(br, .inr (1, [.ref pl, .int z1, .int z2, .int z3])), (pl, .inl (cA 8, 19, .inr (.inr (.inr (.inr f)))))] s.heap.size) s.heap s.heap [] := va_S.rf
  obtain ⟨A, hAe, hD, hA, hz, hRo, hwk, hnR⟩ := xM_start hb0 hPr hP hD0
  rw [hAe] at hS ⊢
  have hl := lv_entry ([.ref br, .int (nI N), .int y]) (n := 4) (Nat.le_of_ble_eq_true rfl)
  rw [lg_entry_eq]
  generalize (lg_sl ([.ref br, .int (nI N), .int y]) ++ List.replicate (4 - (lg_sl ([.ref br, .int (nI N), .int y])).length) Slot.unset).toArray = ls at hl ⊢
  have hl : lv_has ls 4 [(0, .ref br), (1, .int (nI N)), (2, .int y)] := hl
  refine lv_iconst (v := 0) hx hb dX1_renew_0 (by decide) ?_
  refine lv_istore_n (lv' := [(3, .int 0), (0, .ref br), (1, .int (nI N)), (2, .int y)]) hx hb dX1_renew_1 rfl hl (by decide) rfl (fun ls hl => ?_)
  refine xloop (σ := Array Slot × Heap × List Loc) (fun i z => lv_has z.1 4 [(3, .int (nI i)), (0, .ref br), (1, .int (nI N)), (2, .int y)] ∧ va_P (dC, dI) vwCl [(br, .inr (1, [.ref pl, .int z1, .int z2, .int z3])), (pl, .inl (cA 8, 19, .inr (.inr (.inr (.inr (pz f i))))))] z.2.1 ∧ va_D A [(br, .inr (1, [.ref pl, .int z1, .int z2, .int z3])), (pl, .inl (cA 8, 19, .inr (.inr (.inr (.inr (pz f i))))))] ∧ va_S A s.heap z.2.1 z.2.2) (fun z => W p l e _ s m _ below meth c z.2.1 z.2.2 _ _ _ (F0 m 2 z.1 [])) N ?_ ?_ (ls, _, _) ⟨hl, by rw [pz_0]; exact hP, by rw [pz_0]; exact hD, hS⟩
  · rintro i ⟨ls, H, locs⟩ hi ⟨hl, hP, hD, hS⟩ ih
    have hl : lv_has ls 4 [(3, .int (nI i)), (0, .ref br), (1, .int (nI N)), (2, .int y)] := hl
    have hP : va_P (dC, dI) vwCl [(br, .inr (1, [.ref pl, .int z1, .int z2, .int z3])), (pl, .inl (cA 8, 19, .inr (.inr (.inr (.inr (pz f i))))))] H := hP
    have hD : va_D A [(br, .inr (1, [.ref pl, .int z1, .int z2, .int z3])), (pl, .inl (cA 8, 19, .inr (.inr (.inr (.inr (pz f i))))))] := hD
    have hS : va_S A s.heap H locs := hS
    show W p l e _ s m _ below meth c H locs _ _ _ (F0 m 2 ls [])
    refine lv_iload_n hx hb dX1_renew_2 rfl (lv_at hl 0 rfl) ?_
    refine lv_iload_n hx hb dX1_renew_3 rfl (lv_at hl 2 rfl) ?_
    refine lv_icmp_ge (tgt := 20) hx hb dX1_renew_4 (by decide) (fun c_1 => ?_) (fun c_1 => ?_)
    · exact absurd c_1 (nI_ge hi (by omega))
    · refine lv_aload_n hx hb dX1_renew_7 rfl (lv_at hl 1 rfl) ?_
      refine va_get (D := (dC, dI)) (ci := 1) (v := .ref pl) (C := RX1) (T := TX1) (N := 4) hx hb (ly_1 h hb0) (fun _ z => z) hown hK hP 0 rfl rfl 0 (by decide) (k_97 h hb0) (fun _ z => z) rfl dX1_renew_8 ?_
      refine lv_iload_n hx hb dX1_renew_11 rfl (lv_at hl 0 rfl) ?_
      refine lv_null hx hb dX1_renew_12 ?_
      refine va_astqN hx hb hK hP hD hS 1 8 rfl rfl (vp_in_nI (by omega) (by decide)) dX1_renew_13 (fun H locs hP hD hS => ?_)
      have hP : va_P (dC, dI) vwCl [(br, .inr (1, [.ref pl, .int z1, .int z2, .int z3])), (pl, .inl (cA 8, 19, .inr (.inr (.inr (.inr (va_up (pz f i) (nI i).toNatClampNeg none))))))] H := hP
      have hD : va_D A [(br, .inr (1, [.ref pl, .int z1, .int z2, .int z3])), (pl, .inl (cA 8, 19, .inr (.inr (.inr (.inr (va_up (pz f i) (nI i).toNatClampNeg none))))))] := hD
      refine lv_iinc (lv' := [(3, .int (nI (i + 1))), (0, .ref br), (1, .int (nI N)), (2, .int y)]) hx hb dX1_renew_14 hl (k := 0) rfl (nI_1 _) (by decide) rfl (fun ls hl => ?_)
      refine lv_goto (tgt := 2) hx hb dX1_renew_17 (by decide) ?_
      rw [nI_clamp (by omega), pz_s] at hP hD
      exact ih (ls, _, _) ⟨hl, hP, hD, hS⟩
  · rintro ⟨ls, H, locs⟩ ⟨hl, hP, hD, hS⟩
    have hl : lv_has ls 4 [(3, .int (nI N)), (0, .ref br), (1, .int (nI N)), (2, .int y)] := hl
    have hP : va_P (dC, dI) vwCl [(br, .inr (1, [.ref pl, .int z1, .int z2, .int z3])), (pl, .inl (cA 8, 19, .inr (.inr (.inr (.inr (pz f N))))))] H := hP
    have hD : va_D A [(br, .inr (1, [.ref pl, .int z1, .int z2, .int z3])), (pl, .inl (cA 8, 19, .inr (.inr (.inr (.inr (pz f N))))))] := hD
    have hS : va_S A s.heap H locs := hS
    show W p l e _ s m _ below meth c H locs _ _ _ (F0 m 2 ls [])
    refine lv_iload_n hx hb dX1_renew_2 rfl (lv_at hl 0 rfl) ?_
    refine lv_iload_n hx hb dX1_renew_3 rfl (lv_at hl 2 rfl) ?_
    refine lv_icmp_ge (tgt := 20) hx hb dX1_renew_4 (by decide) (fun c_2 => ?_) (fun c_2 => ?_)
    · refine lv_aload_n hx hb dX1_renew_20 rfl (lv_at hl 1 rfl) ?_
      refine lv_iconst (v := 1) hx hb dX1_renew_21 (by decide) ?_
      refine va_put (D := (dC, dI)) (ci := 1) (v := .int 1) (ty := .boolean) (C := RX1) (T := TX1) (N := 4) hx hb (ly_1 h hb0) (fun _ z => z) tyX1 tyX1_ok nmX1 hown hK hP hD hS 0 rfl rfl 1 (by decide) (k_98 h hb0) (fun _ z => z) rfl (by decide +kernel) rfl rfl (Nat.le_of_ble_eq_true rfl) dX1_renew_22 (fun H locs hP hD hS => ?_)
      have hP : va_P (dC, dI) vwCl [(br, .inr (1, [.ref pl, .int 1, .int z2, .int z3])), (pl, .inl (cA 8, 19, .inr (.inr (.inr (.inr (pz f N))))))] H := hP
      have hD : va_D A [(br, .inr (1, [.ref pl, .int 1, .int z2, .int z3])), (pl, .inl (cA 8, 19, .inr (.inr (.inr (.inr (pz f N))))))] := hD
      refine lv_aload_n hx hb dX1_renew_25 rfl (lv_at hl 1 rfl) ?_
      refine lv_iload_n hx hb dX1_renew_26 rfl (lv_at hl 3 rfl) ?_
      refine va_put (D := (dC, dI)) (ci := 1) (v := .int y) (ty := .boolean) (C := RX1) (T := TX1) (N := 4) hx hb (ly_1 h hb0) (fun _ z => z) tyX1 tyX1_ok nmX1 hown hK hP hD hS 0 rfl rfl 2 (by decide) (k_99 h hb0) (fun _ z => z) rfl (by decide +kernel) (xz01 h01) (xf01 h01) (Nat.le_of_ble_eq_true rfl) dX1_renew_27 (fun H locs hP hD hS => ?_)
      have hP : va_P (dC, dI) vwCl [(br, .inr (1, [.ref pl, .int 1, .int y, .int z3])), (pl, .inl (cA 8, 19, .inr (.inr (.inr (.inr (pz f N))))))] H := hP
      have hD : va_D A [(br, .inr (1, [.ref pl, .int 1, .int y, .int z3])), (pl, .inl (cA 8, 19, .inr (.inr (.inr (.inr (pz f N))))))] := hD
      refine lv_aload_n hx hb dX1_renew_30 rfl (lv_at hl 1 rfl) ?_
      refine lv_iload_n hx hb dX1_renew_31 rfl (lv_at hl 2 rfl) ?_
      refine va_put (D := (dC, dI)) (ci := 1) (v := .int (nI N)) (ty := .int) (C := RX1) (T := TX1) (N := 4) hx hb (ly_1 h hb0) (fun _ z => z) tyX1 tyX1_ok nmX1 hown hK hP hD hS 0 rfl rfl 3 (by decide) (k_100 h hb0) (fun _ z => z) rfl (by decide +kernel) rfl rfl (Nat.le_of_ble_eq_true rfl) dX1_renew_32 (fun H locs hP hD hS => ?_)
      have hP : va_P (dC, dI) vwCl [(br, .inr (1, [.ref pl, .int 1, .int y, .int (nI N)])), (pl, .inl (cA 8, 19, .inr (.inr (.inr (.inr (pz f N))))))] H := hP
      have hD : va_D A [(br, .inr (1, [.ref pl, .int 1, .int y, .int (nI N)])), (pl, .inl (cA 8, 19, .inr (.inr (.inr (.inr (pz f N))))))] := hD
      exact W.vret hx hb hr (fun t ht _ => ⟨none, _, rfl, ⟨rfl, rfl⟩, by rw [ht]; exact hP, hD, hS.F ht⟩) (fun q z => hS.2.2 q z) dX1_renew_35
    · exact absurd (nI_le (Nat.le_refl N) (by omega)) c_2
end
section
set_option maxHeartbeats 4000000 in
set_option maxRecDepth 100000 in
theorem c_read {l : Launch} {s0 : State} {a0 : Array Value} {dC : Nat → ClassId} {dI : Nat → Nat → Nat} {cA : Nat → ClassId} (h : xC l s0 a0 dC dI cA) (b gr br : Nat) (wr ca : Int32) (ro b0 b1 b2 b3 b4 b5 b6 b7 b8 : Nat) (n : Nat → Int32) (g : Nat → Nat → Int32) (K : Nat) (p1 p2 p3 : Int32) (hKe : p1 &&& 7 = nI K) (hK8 : K < 8) (ht : ¬ p2 = 0) (h0 : ¬ p3 < 0) (h1 : p3 < n K) (hi : vp_in p3 39) : Met l yX5_read [Cond.code yX5_read cX5_read 5 (some .long)] ({ frames := 1, cells := 0, slots := 0, locals := 40 } : Room) (xP s0 (dC, dI) [.ref b, .int p1, .int p2, .int p3] [(b, .inr (5, [.ref ro, .ref gr, .ref br, .int wr, .int ca])), (ro, .inr (4, [.ref b0, .ref b1, .ref b2, .ref b3, .ref b4, .ref b5, .ref b6, .ref b7, .ref b8])), (b0, .inl (cA 0, 8, .inl n)), (b1, .inl (cA 0, 39, .inl (r0 g))), (b2, .inl (cA 1, 39, .inr (.inl (r1 g)))), (b3, .inl (cA 2, 39, .inl (r2 g))), (b4, .inl (cA 3, 39, .inl (r3 g))), (b5, .inl (cA 4, 39, .inl (r4 g))), (b6, .inl (cA 5, 39, .inl (r5 g))), (b7, .inl (cA 6, 39, .inr (.inr (.inl (r6 g))))), (b8, .inl (cA 7, 39, .inr (.inr (.inr (.inl (r7 g))))))]) (xR (some (.long (rd K (g K p3.toNatClampNeg))))) 0 0 (fun _ => False) := by
  refine Met.ofW (cc := cX5_read) (maxL := 5) (ret := (some .long)) (by decide) rfl ?_
  intro p e s m args below meth c s₁ B hml hv
  obtain ⟨rfl, hb0, hP⟩ := hv
  have hx := B.exec
  have hb := B.bytes
  have hr := B.returns
  have hown : s.vm.findClass RX5 = some m.cls := findClass_of_methodNamed B.named
  have hlocks := B.notSynchronized
  have hK := h.K hb0
  have hS : va_S (fun _ : Nat => False) s.heap s.heap [] := va_S.rf
  have hz : ∀ q : Nat, (fun _ : Nat => False) q → s0.heap.size ≤ q := fun _ z => z.elim
  have hl := lv_entry ([.ref b, .int p1, .int p2, .int p3]) (n := 5) (Nat.le_of_ble_eq_true rfl)
  rw [lg_entry_eq]
  generalize (lg_sl ([.ref b, .int p1, .int p2, .int p3]) ++ List.replicate (5 - (lg_sl ([.ref b, .int p1, .int p2, .int p3])).length) Slot.unset).toArray = ls at hl ⊢
  have hl : lv_has ls 5 [(0, .ref b), (1, .int p1), (2, .int p2), (3, .int p3)] := hl
  refine lv_iload_n hx hb dX5_read_0 rfl (lv_at hl 1 rfl) ?_
  refine xr_1 (va_runS (As := [.int p1]) (rest := []) ⟨hx, hb, hml, hown, xTs⟩ (c_kindOf h _) ⟨xB (n := 1) (k_137 h hb0) (k_1 h hb0) (k_135 h hb0) (by decide) rfl rfl rfl (by decide) (by decide), (k_136 h hb0)⟩ (xpS hb0 hS hz (va_P.sub hP [] rfl)) rfl rfl hl.1 rfl (lv_room (Nat.le_of_ble_eq_true rfl)) dX5_read_1 ⟨(Nat.le_of_ble_eq_true rfl), (Nat.le_of_ble_eq_true rfl)⟩) ?_
  rw [hKe]
  refine lv_istore (lv' := [(4, .int (nI K)), (0, .ref b), (1, .int p1), (2, .int p2), (3, .int p3)]) hx hb dX5_read_4 hl (by decide) rfl (fun ls hl => ?_)
  refine lv_iload_n hx hb dX5_read_6 rfl (lv_at hl 3 rfl) ?_
  refine xr_0 (va_runS (As := [.int p2]) (rest := []) ⟨hx, hb, hml, hown, xTs⟩ (c_needThere h _ ht) ⟨xB (n := 1) (k_140 h hb0) (k_1 h hb0) (k_138 h hb0) (by decide) rfl rfl rfl (by decide) (by decide), (k_139 h hb0)⟩ (xpS hb0 hS hz (va_P.sub hP [] rfl)) rfl rfl hl.1 rfl (lv_room (Nat.le_of_ble_eq_true rfl)) dX5_read_7 ⟨(Nat.le_of_ble_eq_true rfl), (Nat.le_of_ble_eq_true rfl)⟩) ?_
  refine lv_iload_n hx hb dX5_read_10 rfl (lv_at hl 4 rfl) ?_
  refine lv_aload_n hx hb dX5_read_11 rfl (lv_at hl 1 rfl) ?_
  refine va_get (D := (dC, dI)) (ci := 5) (v := .ref ro) (C := RX5) (T := TX5) (N := 5) hx hb (ly_5 h hb0) (fun _ z => z) hown hK hP 0 rfl rfl 0 (by decide) (k_110 h hb0) (fun _ z => z) rfl dX5_read_12 ?_
  refine lv_iload hx hb dX5_read_15 (lv_at hl 0 rfl) ?_
  refine xr_1 (va_runV (As := [.int (nI K)]) (rest := [.int p3]) ⟨hx, hb, hml, hown, xTs⟩ (c_cellCount h ro b0 b1 b2 b3 b4 b5 b6 b7 b8 n g (nI K) (vp_in_nI hK8 (by decide))) ⟨xB (n := 1) (k_229 h hb0) (k_2 h hb0) (k_226 h hb0) (by decide) rfl rfl rfl (by decide) (by decide), (k_227 h hb0), (k_228 h hb0)⟩ (xpV hb0 hS hz (va_P.sub hP [1, 2] rfl) (va_recv hK hP (ci := 4) (q0 := 1) rfl rfl)) rfl rfl hl.1 rfl (lv_room (Nat.le_of_ble_eq_true rfl)) dX5_read_17 ⟨(Nat.le_of_ble_eq_true rfl), (Nat.le_of_ble_eq_true rfl)⟩) ?_
  rw [nI_clamp (Nat.lt_trans hK8 (by decide))]
  refine xr_0 (va_runS (As := [.int p3, .int (n K)]) (rest := []) ⟨hx, hb, hml, hown, xTs⟩ (c_needPlace h _ _ h0 h1) ⟨xB (n := 2) (k_232 h hb0) (k_1 h hb0) (k_230 h hb0) (by decide) rfl rfl rfl (by decide) (by decide), (k_231 h hb0)⟩ (xpS hb0 hS hz (va_P.sub hP [] rfl)) rfl rfl hl.1 rfl (lv_room (Nat.le_of_ble_eq_true rfl)) dX5_read_20 ⟨(Nat.le_of_ble_eq_true rfl), (Nat.le_of_ble_eq_true rfl)⟩) ?_
  refine lv_aload_n hx hb dX5_read_23 rfl (lv_at hl 1 rfl) ?_
  refine va_get (D := (dC, dI)) (ci := 5) (v := .ref ro) (C := RX5) (T := TX5) (N := 5) hx hb (ly_5 h hb0) (fun _ z => z) hown hK hP 0 rfl rfl 0 (by decide) (k_110 h hb0) (fun _ z => z) rfl dX5_read_24 ?_
  refine lv_iload hx hb dX5_read_27 (lv_at hl 0 rfl) ?_
  refine lv_iload_n hx hb dX5_read_29 rfl (lv_at hl 4 rfl) ?_
  refine xr_1 (va_runV (As := [.int (nI K), .int p3]) (rest := []) ⟨hx, hb, hml, hown, xTs⟩ (c_numberAt h ro b0 b1 b2 b3 b4 b5 b6 b7 b8 n g K p3 hK8 hi) ⟨xB (n := 2) (k_257 h hb0) (k_2 h hb0) (k_254 h hb0) (by decide) rfl rfl rfl (by decide) (by decide), (k_255 h hb0), (k_256 h hb0)⟩ (xpV hb0 hS hz (va_P.sub hP [1, 3, 4, 5, 6, 7, 8, 9, 10] rfl) (va_recv hK hP (ci := 4) (q0 := 1) rfl rfl)) rfl rfl hl.1 rfl (lv_room (Nat.le_of_ble_eq_true rfl)) dX5_read_30 ⟨(Nat.le_of_ble_eq_true rfl), (Nat.le_of_ble_eq_true rfl)⟩) ?_
  exact W.lret hx hb hr (fun t ht _ => ⟨rfl, ht⟩) (fun q z => nomatch z) dX5_read_33
set_option maxHeartbeats 4000000 in
set_option maxRecDepth 100000 in
theorem t_read_N {l : Launch} {s0 : State} {a0 : Array Value} {dC : Nat → ClassId} {dI : Nat → Nat → Nat} {cA : Nat → ClassId} (h : xC l s0 a0 dC dI cA) (b gr br : Nat) (wr ca : Int32) (ro b0 b1 b2 b3 b4 b5 b6 b7 b8 : Nat) (n : Nat → Int32) (g : Nat → Nat → Int32) (K : Nat) (p1 p2 p3 : Int32) (hKe : p1 &&& 7 = nI K) (hK8 : K < 8) (ht : p2 = 0) : xt_Met l yX5_read [Cond.code yX5_read cX5_read 5 (some .long)] ({ frames := 8, cells := 1, slots := 8, locals := 140 } : Room) (xP s0 (dC, dI) [.ref b, .int p1, .int p2, .int p3] [(b, .inr (5, [.ref ro, .ref gr, .ref br, .int wr, .int ca])), (ro, .inr (4, [.ref b0, .ref b1, .ref b2, .ref b3, .ref b4, .ref b5, .ref b6, .ref b7, .ref b8])), (b0, .inl (cA 0, 8, .inl n))]) "java/lang/NullPointerException" 1 8 := by
  refine xt_ofW (cc := cX5_read) (maxL := 5) (ret := (some .long)) (by decide) rfl ?_
  intro p e s m args below meth c s₁ B hml hout hv
  obtain ⟨rfl, hb0, hP⟩ := hv
  have hx := B.exec
  have hb := B.bytes
  have hr := B.returns
  have hown : s.vm.findClass RX5 = some m.cls := findClass_of_methodNamed B.named
  have hlocks := B.notSynchronized
  have hK := h.K hb0
  have hS : va_S (fun _ : Nat => False) s.heap s.heap [] := va_S.rf
  have hz : ∀ q : Nat, (fun _ : Nat => False) q → s0.heap.size ≤ q := fun _ z => z.elim
  have hl := lv_entry ([.ref b, .int p1, .int p2, .int p3]) (n := 5) (Nat.le_of_ble_eq_true rfl)
  rw [lg_entry_eq]
  generalize (lg_sl ([.ref b, .int p1, .int p2, .int p3]) ++ List.replicate (5 - (lg_sl ([.ref b, .int p1, .int p2, .int p3])).length) Slot.unset).toArray = ls at hl ⊢
  have hl : lv_has ls 5 [(0, .ref b), (1, .int p1), (2, .int p2), (3, .int p3)] := hl
  refine lv_iload_n hx hb dX5_read_0 rfl (lv_at hl 1 rfl) ?_
  refine xr_1 (va_runS (As := [.int p1]) (rest := []) ⟨hx, hb, hml, hown, xTs⟩ (c_kindOf h _) ⟨xB (n := 1) (k_137 h hb0) (k_1 h hb0) (k_135 h hb0) (by decide) rfl rfl rfl (by decide) (by decide), (k_136 h hb0)⟩ (xpS hb0 hS hz (va_P.sub hP [] rfl)) rfl rfl hl.1 rfl (lv_room (Nat.le_of_ble_eq_true rfl)) dX5_read_1 ⟨(Nat.le_of_ble_eq_true rfl), (Nat.le_of_ble_eq_true rfl)⟩) ?_
  rw [hKe]
  refine lv_istore (lv' := [(4, .int (nI K)), (0, .ref b), (1, .int p1), (2, .int p2), (3, .int p3)]) hx hb dX5_read_4 hl (by decide) rfl (fun ls hl => ?_)
  refine lv_iload_n hx hb dX5_read_6 rfl (lv_at hl 3 rfl) ?_
  exact xt_callS (As := [.int p2]) (rest := []) ⟨hx, hb, hml, hown, xTs⟩ (t_needThere h _ ht) ⟨xB (n := 1) (k_140 h hb0) (k_1 h hb0) (k_138 h hb0) (by decide) rfl rfl rfl (by decide) (by decide), (k_139 h hb0)⟩ (xpS hb0 hS hz (va_P.sub hP [] rfl)) rfl rfl hl.1 rfl (lv_room (Nat.le_of_ble_eq_true rfl)) dX5_read_7 ⟨(Nat.le_of_ble_eq_true rfl), (Nat.le_of_ble_eq_true rfl)⟩ (fun q ce H1 h1 h2 h3 h4 h5 => xt_out hout hlocks h1 h2 h3 (Nat.le_of_ble_eq_true rfl) (Nat.le_of_ble_eq_true rfl))
set_option maxHeartbeats 4000000 in
set_option maxRecDepth 100000 in
theorem t_read_A {l : Launch} {s0 : State} {a0 : Array Value} {dC : Nat → ClassId} {dI : Nat → Nat → Nat} {cA : Nat → ClassId} (h : xC l s0 a0 dC dI cA) (b gr br : Nat) (wr ca : Int32) (ro b0 b1 b2 b3 b4 b5 b6 b7 b8 : Nat) (n : Nat → Int32) (g : Nat → Nat → Int32) (K : Nat) (p1 p2 p3 : Int32) (hKe : p1 &&& 7 = nI K) (hK8 : K < 8) (ht : ¬ p2 = 0) (hc : p3 < 0 ∨ ¬ p3 < n K) : xt_Met l yX5_read [Cond.code yX5_read cX5_read 5 (some .long)] ({ frames := 8, cells := 1, slots := 8, locals := 140 } : Room) (xP s0 (dC, dI) [.ref b, .int p1, .int p2, .int p3] [(b, .inr (5, [.ref ro, .ref gr, .ref br, .int wr, .int ca])), (ro, .inr (4, [.ref b0, .ref b1, .ref b2, .ref b3, .ref b4, .ref b5, .ref b6, .ref b7, .ref b8])), (b0, .inl (cA 0, 8, .inl n))]) "java/lang/ArrayIndexOutOfBoundsException" 1 8 := by
  refine xt_ofW (cc := cX5_read) (maxL := 5) (ret := (some .long)) (by decide) rfl ?_
  intro p e s m args below meth c s₁ B hml hout hv
  obtain ⟨rfl, hb0, hP⟩ := hv
  have hx := B.exec
  have hb := B.bytes
  have hr := B.returns
  have hown : s.vm.findClass RX5 = some m.cls := findClass_of_methodNamed B.named
  have hlocks := B.notSynchronized
  have hK := h.K hb0
  have hS : va_S (fun _ : Nat => False) s.heap s.heap [] := va_S.rf
  have hz : ∀ q : Nat, (fun _ : Nat => False) q → s0.heap.size ≤ q := fun _ z => z.elim
  have hl := lv_entry ([.ref b, .int p1, .int p2, .int p3]) (n := 5) (Nat.le_of_ble_eq_true rfl)
  rw [lg_entry_eq]
  generalize (lg_sl ([.ref b, .int p1, .int p2, .int p3]) ++ List.replicate (5 - (lg_sl ([.ref b, .int p1, .int p2, .int p3])).length) Slot.unset).toArray = ls at hl ⊢
  have hl : lv_has ls 5 [(0, .ref b), (1, .int p1), (2, .int p2), (3, .int p3)] := hl
  refine lv_iload_n hx hb dX5_read_0 rfl (lv_at hl 1 rfl) ?_
  refine xr_1 (va_runS (As := [.int p1]) (rest := []) ⟨hx, hb, hml, hown, xTs⟩ (c_kindOf h _) ⟨xB (n := 1) (k_137 h hb0) (k_1 h hb0) (k_135 h hb0) (by decide) rfl rfl rfl (by decide) (by decide), (k_136 h hb0)⟩ (xpS hb0 hS hz (va_P.sub hP [] rfl)) rfl rfl hl.1 rfl (lv_room (Nat.le_of_ble_eq_true rfl)) dX5_read_1 ⟨(Nat.le_of_ble_eq_true rfl), (Nat.le_of_ble_eq_true rfl)⟩) ?_
  rw [hKe]
  refine lv_istore (lv' := [(4, .int (nI K)), (0, .ref b), (1, .int p1), (2, .int p2), (3, .int p3)]) hx hb dX5_read_4 hl (by decide) rfl (fun ls hl => ?_)
  refine lv_iload_n hx hb dX5_read_6 rfl (lv_at hl 3 rfl) ?_
  refine xr_0 (va_runS (As := [.int p2]) (rest := []) ⟨hx, hb, hml, hown, xTs⟩ (c_needThere h _ ht) ⟨xB (n := 1) (k_140 h hb0) (k_1 h hb0) (k_138 h hb0) (by decide) rfl rfl rfl (by decide) (by decide), (k_139 h hb0)⟩ (xpS hb0 hS hz (va_P.sub hP [] rfl)) rfl rfl hl.1 rfl (lv_room (Nat.le_of_ble_eq_true rfl)) dX5_read_7 ⟨(Nat.le_of_ble_eq_true rfl), (Nat.le_of_ble_eq_true rfl)⟩) ?_
  refine lv_iload_n hx hb dX5_read_10 rfl (lv_at hl 4 rfl) ?_
  refine lv_aload_n hx hb dX5_read_11 rfl (lv_at hl 1 rfl) ?_
  refine va_get (D := (dC, dI)) (ci := 5) (v := .ref ro) (C := RX5) (T := TX5) (N := 5) hx hb (ly_5 h hb0) (fun _ z => z) hown hK hP 0 rfl rfl 0 (by decide) (k_110 h hb0) (fun _ z => z) rfl dX5_read_12 ?_
  refine lv_iload hx hb dX5_read_15 (lv_at hl 0 rfl) ?_
  refine xr_1 (va_runV (As := [.int (nI K)]) (rest := [.int p3]) ⟨hx, hb, hml, hown, xTs⟩ (c_cellCount h ro b0 b1 b2 b3 b4 b5 b6 b7 b8 n g (nI K) (vp_in_nI hK8 (by decide))) ⟨xB (n := 1) (k_229 h hb0) (k_2 h hb0) (k_226 h hb0) (by decide) rfl rfl rfl (by decide) (by decide), (k_227 h hb0), (k_228 h hb0)⟩ (xpV hb0 hS hz (va_P.sub hP [1, 2] rfl) (va_recv hK hP (ci := 4) (q0 := 1) rfl rfl)) rfl rfl hl.1 rfl (lv_room (Nat.le_of_ble_eq_true rfl)) dX5_read_17 ⟨(Nat.le_of_ble_eq_true rfl), (Nat.le_of_ble_eq_true rfl)⟩) ?_
  rw [nI_clamp (Nat.lt_trans hK8 (by decide))]
  exact xt_callS (As := [.int p3, .int (n K)]) (rest := []) ⟨hx, hb, hml, hown, xTs⟩ (t_needPlace h _ _ hc) ⟨xB (n := 2) (k_232 h hb0) (k_1 h hb0) (k_230 h hb0) (by decide) rfl rfl rfl (by decide) (by decide), (k_231 h hb0)⟩ (xpS hb0 hS hz (va_P.sub hP [] rfl)) rfl rfl hl.1 rfl (lv_room (Nat.le_of_ble_eq_true rfl)) dX5_read_20 ⟨(Nat.le_of_ble_eq_true rfl), (Nat.le_of_ble_eq_true rfl)⟩ (fun q ce H1 h1 h2 h3 h4 h5 => xt_out hout hlocks h1 h2 h3 (Nat.le_of_ble_eq_true rfl) (Nat.le_of_ble_eq_true rfl))
set_option maxHeartbeats 4000000 in
set_option maxRecDepth 100000 in
theorem c_write {l : Launch} {s0 : State} {a0 : Array Value} {dC : Nat → ClassId} {dI : Nat → Nat → Nat} {cA : Nat → ClassId} (h : xC l s0 a0 dC dI cA) (b gr br : Nat) (wr ca : Int32) (ro b0 b1 b2 b3 b4 b5 b6 b7 b8 : Nat) (n : Nat → Int32) (g : Nat → Nat → Int32) (K : Nat) (p1 p2 p3 p4 : Int32) (sz : Nat) (hKe : p1 &&& 7 = nI K) (hK8 : K < 8) (ht : ¬ p2 = 0) (h0 : ¬ p3 < 0) (h1 : p3 < n K) (hi : vp_in p3 39) : Met l yX5_write [Cond.code yX5_write cX5_write 6 (some .int)] ({ frames := 1, cells := 0, slots := 0, locals := 40 } : Room) (xPM s0 (dC, dI) [.ref b, .int p1, .int p2, .int p3, .int p4] [(ro, .inr (4, [.ref b0, .ref b1, .ref b2, .ref b3, .ref b4, .ref b5, .ref b6, .ref b7, .ref b8])), (b0, .inl (cA 0, 8, .inl n))] [(b, .inr (5, [.ref ro, .ref gr, .ref br, .int wr, .int ca])), (b1, .inl (cA 0, 39, .inl (r0 g))), (b2, .inl (cA 1, 39, .inr (.inl (r1 g)))), (b3, .inl (cA 2, 39, .inl (r2 g))), (b4, .inl (cA 3, 39, .inl (r3 g))), (b5, .inl (cA 4, 39, .inl (r4 g))), (b6, .inl (cA 5, 39, .inl (r5 g))), (b7, .inl (cA 6, 39, .inr (.inr (.inl (r6 g))))), (b8, .inl (cA 7, 39, .inr (.inr (.inr (.inl (r7 g))))))] sz) (xQM (dC, dI) (va_A [(b, .inr (5, [.ref ro, .ref gr, .ref br, .int wr, .int ca])), (b1, .inl (cA 0, 39, .inl (r0 g))), (b2, .inl (cA 1, 39, .inr (.inl (r1 g)))), (b3, .inl (cA 2, 39, .inl (r2 g))), (b4, .inl (cA 3, 39, .inl (r3 g))), (b5, .inl (cA 4, 39, .inl (r4 g))), (b6, .inl (cA 5, 39, .inl (r5 g))), (b7, .inl (cA 6, 39, .inr (.inr (.inl (r6 g))))), (b8, .inl (cA 7, 39, .inr (.inr (.inr (.inl (r7 g))))))] sz) (fun r w1 => r = some (.int (wr + 1)) ∧ w1 = [(b, .inr (5, [.ref ro, .ref gr, .ref br, .int (wr + 1), .int ca])), (b1, .inl (cA 0, 39, .inl (r0 (gset g K p3.toNatClampNeg p4)))), (b2, .inl (cA 1, 39, .inr (.inl (r1 (gset g K p3.toNatClampNeg p4))))), (b3, .inl (cA 2, 39, .inl (r2 (gset g K p3.toNatClampNeg p4)))), (b4, .inl (cA 3, 39, .inl (r3 (gset g K p3.toNatClampNeg p4)))), (b5, .inl (cA 4, 39, .inl (r4 (gset g K p3.toNatClampNeg p4)))), (b6, .inl (cA 5, 39, .inl (r5 (gset g K p3.toNatClampNeg p4)))), (b7, .inl (cA 6, 39, .inr (.inr (.inl (r6 (gset g K p3.toNatClampNeg p4)))))), (b8, .inl (cA 7, 39, .inr (.inr (.inr (.inl (r7 (gset g K p3.toNatClampNeg p4)))))))])) 0 0 (va_A [(b, .inr (5, [.ref ro, .ref gr, .ref br, .int wr, .int ca])), (b1, .inl (cA 0, 39, .inl (r0 g))), (b2, .inl (cA 1, 39, .inr (.inl (r1 g)))), (b3, .inl (cA 2, 39, .inl (r2 g))), (b4, .inl (cA 3, 39, .inl (r3 g))), (b5, .inl (cA 4, 39, .inl (r4 g))), (b6, .inl (cA 5, 39, .inl (r5 g))), (b7, .inl (cA 6, 39, .inr (.inr (.inl (r6 g))))), (b8, .inl (cA 7, 39, .inr (.inr (.inr (.inl (r7 g))))))] sz) := by
  refine Met.ofW (cc := cX5_write) (maxL := 6) (ret := (some .int)) (by decide) rfl ?_
  intro p e s m args below meth c s₁ B hml hv
  obtain ⟨rfl, rfl, hb0, hPr, hP, hD0⟩ := hv
  have hx := B.exec
  have hb := B.bytes
  have hr := B.returns
  have hown : s.vm.findClass RX5 = some m.cls := findClass_of_methodNamed B.named
  have hlocks := B.notSynchronized
  have hK := h.K hb0
  have hS : va_S (va_A [(b, .inr (5, [.ref ro, .ref gr, .ref br, .int wr, .int ca])), (b1, .inl (cA 0, 39, .inl (r0 g))), (b2, .inl (cA 1, 39, .inr (.inl (r1 g)))), (b3, .inl (cA 2, 39, .inl (r2 g))), (b4, .inl (cA 3, 39, .inl (r3 g))), (b5, .inl (cA 4, 39, .inl (r4 g))), (b6, .inl (cA 5, 39, .inl (r5 g))), (b7, .inl (cA 6, 39, .inr (.inr (.inl (r6 g))))), (b8, .inl (cA 7, 39, .inr (.inr (.inr (.inl (r7 g))))))] s.heap.size) s.heap s.heap [] := va_S.rf
  obtain ⟨A, hAe, hD, hA, hz, hRo, hwk, hnR⟩ := xM_start hb0 hPr hP hD0
  rw [hAe] at hS ⊢
  have hl := lv_entry ([.ref b, .int p1, .int p2, .int p3, .int p4]) (n := 6) (Nat.le_of_ble_eq_true rfl)
  rw [lg_entry_eq]
  generalize (lg_sl ([.ref b, .int p1, .int p2, .int p3, .int p4]) ++ List.replicate (6 - (lg_sl ([.ref b, .int p1, .int p2, .int p3, .int p4])).length) Slot.unset).toArray = ls at hl ⊢
  have hl : lv_has ls 6 [(0, .ref b), (1, .int p1), (2, .int p2), (3, .int p3), (4, .int p4)] := hl
  refine lv_iload_n hx hb dX5_write_0 rfl (lv_at hl 1 rfl) ?_
  refine xr_1 (va_runS (As := [.int p1]) (rest := []) ⟨hx, hb, hml, hown, xTs⟩ (c_kindOf h _) ⟨xB (n := 1) (k_137 h hb0) (k_1 h hb0) (k_135 h hb0) (by decide) rfl rfl rfl (by decide) (by decide), (k_136 h hb0)⟩ (xpS hb0 hS hz (va_P.sub (hRo _ _ hS) [] rfl)) rfl rfl hl.1 rfl (lv_room (Nat.le_of_ble_eq_true rfl)) dX5_write_1 ⟨(Nat.le_of_ble_eq_true rfl), (Nat.le_of_ble_eq_true rfl)⟩) ?_
  rw [hKe]
  refine lv_istore (lv' := [(5, .int (nI K)), (0, .ref b), (1, .int p1), (2, .int p2), (3, .int p3), (4, .int p4)]) hx hb dX5_write_4 hl (by decide) rfl (fun ls hl => ?_)
  refine lv_iload_n hx hb dX5_write_6 rfl (lv_at hl 3 rfl) ?_
  refine xr_0 (va_runS (As := [.int p2]) (rest := []) ⟨hx, hb, hml, hown, xTs⟩ (c_needThere h _ ht) ⟨xB (n := 1) (k_140 h hb0) (k_1 h hb0) (k_138 h hb0) (by decide) rfl rfl rfl (by decide) (by decide), (k_139 h hb0)⟩ (xpS hb0 hS hz (va_P.sub (hRo _ _ hS) [] rfl)) rfl rfl hl.1 rfl (lv_room (Nat.le_of_ble_eq_true rfl)) dX5_write_7 ⟨(Nat.le_of_ble_eq_true rfl), (Nat.le_of_ble_eq_true rfl)⟩) ?_
  refine lv_iload_n hx hb dX5_write_10 rfl (lv_at hl 4 rfl) ?_
  refine lv_aload_n hx hb dX5_write_11 rfl (lv_at hl 1 rfl) ?_
  refine va_get (D := (dC, dI)) (ci := 5) (v := .ref ro) (C := RX5) (T := TX5) (N := 5) hx hb (ly_5 h hb0) (fun _ z => z) hown hK hP 0 rfl rfl 0 (by decide) (k_110 h hb0) (fun _ z => z) rfl dX5_write_12 ?_
  refine lv_iload hx hb dX5_write_15 (lv_at hl 0 rfl) ?_
  refine xr_1 (va_runV (As := [.int (nI K)]) (rest := [.int p3]) ⟨hx, hb, hml, hown, xTs⟩ (c_cellCount h ro b0 b1 b2 b3 b4 b5 b6 b7 b8 n g (nI K) (vp_in_nI hK8 (by decide))) ⟨xB (n := 1) (k_229 h hb0) (k_2 h hb0) (k_226 h hb0) (by decide) rfl rfl rfl (by decide) (by decide), (k_227 h hb0), (k_228 h hb0)⟩ (xpV hb0 hS hz (va_P.sub (hRo _ _ hS) [0, 1] rfl) (va_recv hK (hRo _ _ hS) (ci := 4) (q0 := 0) rfl rfl)) rfl rfl hl.1 rfl (lv_room (Nat.le_of_ble_eq_true rfl)) dX5_write_17 ⟨(Nat.le_of_ble_eq_true rfl), (Nat.le_of_ble_eq_true rfl)⟩) ?_
  rw [nI_clamp (Nat.lt_trans hK8 (by decide))]
  refine xr_0 (va_runS (As := [.int p3, .int (n K)]) (rest := []) ⟨hx, hb, hml, hown, xTs⟩ (c_needPlace h _ _ h0 h1) ⟨xB (n := 2) (k_232 h hb0) (k_1 h hb0) (k_230 h hb0) (by decide) rfl rfl rfl (by decide) (by decide), (k_231 h hb0)⟩ (xpS hb0 hS hz (va_P.sub (hRo _ _ hS) [] rfl)) rfl rfl hl.1 rfl (lv_room (Nat.le_of_ble_eq_true rfl)) dX5_write_20 ⟨(Nat.le_of_ble_eq_true rfl), (Nat.le_of_ble_eq_true rfl)⟩) ?_
  refine lv_aload_n hx hb dX5_write_23 rfl (lv_at hl 1 rfl) ?_
  refine va_get (D := (dC, dI)) (ci := 5) (v := .ref ro) (C := RX5) (T := TX5) (N := 5) hx hb (ly_5 h hb0) (fun _ z => z) hown hK hP 0 rfl rfl 0 (by decide) (k_110 h hb0) (fun _ z => z) rfl dX5_write_24 ?_
  refine lv_iload hx hb dX5_write_27 (lv_at hl 0 rfl) ?_
  refine lv_iload_n hx hb dX5_write_29 rfl (lv_at hl 4 rfl) ?_
  refine lv_iload hx hb dX5_write_30 (lv_at hl 5 rfl) ?_
  refine xm_of (wc := [(b1, .inl (cA 0, 39, .inl (r0 g))), (b2, .inl (cA 1, 39, .inr (.inl (r1 g)))), (b3, .inl (cA 2, 39, .inl (r2 g))), (b4, .inl (cA 3, 39, .inl (r3 g))), (b5, .inl (cA 4, 39, .inl (r4 g))), (b6, .inl (cA 5, 39, .inl (r5 g))), (b7, .inl (cA 6, 39, .inr (.inr (.inl (r6 g))))), (b8, .inl (cA 7, 39, .inr (.inr (.inr (.inl (r7 g))))))]) (wo := [(b, .inr (5, [.ref ro, .ref gr, .ref br, .int wr, .int ca]))]) (va_runV (As := [.int (nI K), .int p3, .int p4]) (rest := []) ⟨hx, hb, hml, hown, xTs⟩ (c_store h ro b0 b1 b2 b3 b4 b5 b6 b7 b8 g K p3 p4 _ hK8 hi) ⟨xB (n := 3) (k_268 h hb0) (k_2 h hb0) (k_265 h hb0) (by decide) rfl rfl rfl (by decide) (by decide), (k_266 h hb0), (k_267 h hb0)⟩ (xpMV (wr := [(ro, .inr (4, [.ref b0, .ref b1, .ref b2, .ref b3, .ref b4, .ref b5, .ref b6, .ref b7, .ref b8]))]) (wc := [(b1, .inl (cA 0, 39, .inl (r0 g))), (b2, .inl (cA 1, 39, .inr (.inl (r1 g)))), (b3, .inl (cA 2, 39, .inl (r2 g))), (b4, .inl (cA 3, 39, .inl (r3 g))), (b5, .inl (cA 4, 39, .inl (r4 g))), (b6, .inl (cA 5, 39, .inl (r5 g))), (b7, .inl (cA 6, 39, .inr (.inr (.inl (r6 g))))), (b8, .inl (cA 7, 39, .inr (.inr (.inr (.inl (r7 g))))))]) hb0 hS hz (va_P.sub (hRo _ _ hS) [0] rfl) (va_P.sub hP [1, 2, 3, 4, 5, 6, 7, 8] rfl) (va_D.sub (xDD (xDl hD0) hD hz hnR) [0, 3, 4, 5, 6, 7, 8, 9, 10] rfl rfl) (va_recv hK (hRo _ _ hS) (ci := 4) (q0 := 0) rfl rfl)) rfl rfl hl.1 rfl (lv_room (Nat.le_of_ble_eq_true rfl)) dX5_write_32 ⟨(Nat.le_of_ble_eq_true rfl), (Nat.le_of_ble_eq_true rfl)⟩) hP hD hS hA [1, 2, 3, 4, 5, 6, 7, 8] [0] rfl rfl rfl (by decide) (fun r w1 H locs hΦ hP hD hS => ?_)
  obtain ⟨rfl, rfl⟩ := hΦ
  have hP : va_P (dC, dI) vwCl [(b, .inr (5, [.ref ro, .ref gr, .ref br, .int wr, .int ca])), (b1, .inl (cA 0, 39, .inl (r0 (gset g K p3.toNatClampNeg p4)))), (b2, .inl (cA 1, 39, .inr (.inl (r1 (gset g K p3.toNatClampNeg p4))))), (b3, .inl (cA 2, 39, .inl (r2 (gset g K p3.toNatClampNeg p4)))), (b4, .inl (cA 3, 39, .inl (r3 (gset g K p3.toNatClampNeg p4)))), (b5, .inl (cA 4, 39, .inl (r4 (gset g K p3.toNatClampNeg p4)))), (b6, .inl (cA 5, 39, .inl (r5 (gset g K p3.toNatClampNeg p4)))), (b7, .inl (cA 6, 39, .inr (.inr (.inl (r6 (gset g K p3.toNatClampNeg p4)))))), (b8, .inl (cA 7, 39, .inr (.inr (.inr (.inl (r7 (gset g K p3.toNatClampNeg p4)))))))] H := hP
  have hD : va_D A [(b, .inr (5, [.ref ro, .ref gr, .ref br, .int wr, .int ca])), (b1, .inl (cA 0, 39, .inl (r0 (gset g K p3.toNatClampNeg p4)))), (b2, .inl (cA 1, 39, .inr (.inl (r1 (gset g K p3.toNatClampNeg p4))))), (b3, .inl (cA 2, 39, .inl (r2 (gset g K p3.toNatClampNeg p4)))), (b4, .inl (cA 3, 39, .inl (r3 (gset g K p3.toNatClampNeg p4)))), (b5, .inl (cA 4, 39, .inl (r4 (gset g K p3.toNatClampNeg p4)))), (b6, .inl (cA 5, 39, .inl (r5 (gset g K p3.toNatClampNeg p4)))), (b7, .inl (cA 6, 39, .inr (.inr (.inl (r6 (gset g K p3.toNatClampNeg p4)))))), (b8, .inl (cA 7, 39, .inr (.inr (.inr (.inl (r7 (gset g K p3.toNatClampNeg p4)))))))] := hD
  refine lv_aload_n hx hb dX5_write_35 rfl (lv_at hl 1 rfl) ?_
  refine lv_dup hx hb dX5_write_36 rfl ?_
  refine va_get (D := (dC, dI)) (ci := 5) (v := .int wr) (C := RX5) (T := TX5) (N := 5) hx hb (ly_5 h hb0) (fun _ z => z) hown hK hP 0 rfl rfl 3 (by decide) (k_113 h hb0) (fun _ z => z) rfl dX5_write_37 ?_
  refine lv_iconst (v := 1) hx hb dX5_write_40 (by decide) ?_
  refine lv_iadd hx hb dX5_write_41 ?_
  refine va_put (D := (dC, dI)) (ci := 5) (v := .int (wr + 1)) (ty := .int) (C := RX5) (T := TX5) (N := 5) hx hb (ly_5 h hb0) (fun _ z => z) tyX5 tyX5_ok nmX5 hown hK hP hD hS 0 rfl rfl 3 (by decide) (k_113 h hb0) (fun _ z => z) rfl (by decide +kernel) rfl rfl (Nat.le_of_ble_eq_true rfl) dX5_write_42 (fun H locs hP hD hS => ?_)
  have hP : va_P (dC, dI) vwCl [(b, .inr (5, [.ref ro, .ref gr, .ref br, .int (wr + 1), .int ca])), (b1, .inl (cA 0, 39, .inl (r0 (gset g K p3.toNatClampNeg p4)))), (b2, .inl (cA 1, 39, .inr (.inl (r1 (gset g K p3.toNatClampNeg p4))))), (b3, .inl (cA 2, 39, .inl (r2 (gset g K p3.toNatClampNeg p4)))), (b4, .inl (cA 3, 39, .inl (r3 (gset g K p3.toNatClampNeg p4)))), (b5, .inl (cA 4, 39, .inl (r4 (gset g K p3.toNatClampNeg p4)))), (b6, .inl (cA 5, 39, .inl (r5 (gset g K p3.toNatClampNeg p4)))), (b7, .inl (cA 6, 39, .inr (.inr (.inl (r6 (gset g K p3.toNatClampNeg p4)))))), (b8, .inl (cA 7, 39, .inr (.inr (.inr (.inl (r7 (gset g K p3.toNatClampNeg p4)))))))] H := hP
  have hD : va_D A [(b, .inr (5, [.ref ro, .ref gr, .ref br, .int (wr + 1), .int ca])), (b1, .inl (cA 0, 39, .inl (r0 (gset g K p3.toNatClampNeg p4)))), (b2, .inl (cA 1, 39, .inr (.inl (r1 (gset g K p3.toNatClampNeg p4))))), (b3, .inl (cA 2, 39, .inl (r2 (gset g K p3.toNatClampNeg p4)))), (b4, .inl (cA 3, 39, .inl (r3 (gset g K p3.toNatClampNeg p4)))), (b5, .inl (cA 4, 39, .inl (r4 (gset g K p3.toNatClampNeg p4)))), (b6, .inl (cA 5, 39, .inl (r5 (gset g K p3.toNatClampNeg p4)))), (b7, .inl (cA 6, 39, .inr (.inr (.inl (r6 (gset g K p3.toNatClampNeg p4)))))), (b8, .inl (cA 7, 39, .inr (.inr (.inr (.inl (r7 (gset g K p3.toNatClampNeg p4)))))))] := hD
  refine lv_aload_n hx hb dX5_write_45 rfl (lv_at hl 1 rfl) ?_
  refine va_get (D := (dC, dI)) (ci := 5) (v := .int (wr + 1)) (C := RX5) (T := TX5) (N := 5) hx hb (ly_5 h hb0) (fun _ z => z) hown hK hP 0 rfl rfl 3 (by decide) (k_113 h hb0) (fun _ z => z) rfl dX5_write_46 ?_
  exact W.iret hx hb hr (fun t ht _ => ⟨(some (.int (wr + 1))), _, rfl, ⟨rfl, rfl⟩, by rw [ht]; exact hP, hD, hS.F ht⟩) (fun q z => hS.2.2 q z) dX5_write_49
set_option maxHeartbeats 4000000 in
set_option maxRecDepth 100000 in
theorem t_write_N {l : Launch} {s0 : State} {a0 : Array Value} {dC : Nat → ClassId} {dI : Nat → Nat → Nat} {cA : Nat → ClassId} (h : xC l s0 a0 dC dI cA) (b gr br : Nat) (wr ca : Int32) (ro b0 b1 b2 b3 b4 b5 b6 b7 b8 : Nat) (n : Nat → Int32) (g : Nat → Nat → Int32) (K : Nat) (p1 p2 p3 p4 : Int32) (hKe : p1 &&& 7 = nI K) (hK8 : K < 8) (ht : p2 = 0) : xt_Met l yX5_write [Cond.code yX5_write cX5_write 6 (some .int)] ({ frames := 8, cells := 1, slots := 8, locals := 140 } : Room) (xP s0 (dC, dI) [.ref b, .int p1, .int p2, .int p3, .int p4] [(b, .inr (5, [.ref ro, .ref gr, .ref br, .int wr, .int ca])), (ro, .inr (4, [.ref b0, .ref b1, .ref b2, .ref b3, .ref b4, .ref b5, .ref b6, .ref b7, .ref b8])), (b0, .inl (cA 0, 8, .inl n))]) "java/lang/NullPointerException" 1 8 := by
  refine xt_ofW (cc := cX5_write) (maxL := 6) (ret := (some .int)) (by decide) rfl ?_
  intro p e s m args below meth c s₁ B hml hout hv
  obtain ⟨rfl, hb0, hP⟩ := hv
  have hx := B.exec
  have hb := B.bytes
  have hr := B.returns
  have hown : s.vm.findClass RX5 = some m.cls := findClass_of_methodNamed B.named
  have hlocks := B.notSynchronized
  have hK := h.K hb0
  have hS : va_S (fun _ : Nat => False) s.heap s.heap [] := va_S.rf
  have hz : ∀ q : Nat, (fun _ : Nat => False) q → s0.heap.size ≤ q := fun _ z => z.elim
  have hl := lv_entry ([.ref b, .int p1, .int p2, .int p3, .int p4]) (n := 6) (Nat.le_of_ble_eq_true rfl)
  rw [lg_entry_eq]
  generalize (lg_sl ([.ref b, .int p1, .int p2, .int p3, .int p4]) ++ List.replicate (6 - (lg_sl ([.ref b, .int p1, .int p2, .int p3, .int p4])).length) Slot.unset).toArray = ls at hl ⊢
  have hl : lv_has ls 6 [(0, .ref b), (1, .int p1), (2, .int p2), (3, .int p3), (4, .int p4)] := hl
  refine lv_iload_n hx hb dX5_write_0 rfl (lv_at hl 1 rfl) ?_
  refine xr_1 (va_runS (As := [.int p1]) (rest := []) ⟨hx, hb, hml, hown, xTs⟩ (c_kindOf h _) ⟨xB (n := 1) (k_137 h hb0) (k_1 h hb0) (k_135 h hb0) (by decide) rfl rfl rfl (by decide) (by decide), (k_136 h hb0)⟩ (xpS hb0 hS hz (va_P.sub hP [] rfl)) rfl rfl hl.1 rfl (lv_room (Nat.le_of_ble_eq_true rfl)) dX5_write_1 ⟨(Nat.le_of_ble_eq_true rfl), (Nat.le_of_ble_eq_true rfl)⟩) ?_
  rw [hKe]
  refine lv_istore (lv' := [(5, .int (nI K)), (0, .ref b), (1, .int p1), (2, .int p2), (3, .int p3), (4, .int p4)]) hx hb dX5_write_4 hl (by decide) rfl (fun ls hl => ?_)
  refine lv_iload_n hx hb dX5_write_6 rfl (lv_at hl 3 rfl) ?_
  exact xt_callS (As := [.int p2]) (rest := []) ⟨hx, hb, hml, hown, xTs⟩ (t_needThere h _ ht) ⟨xB (n := 1) (k_140 h hb0) (k_1 h hb0) (k_138 h hb0) (by decide) rfl rfl rfl (by decide) (by decide), (k_139 h hb0)⟩ (xpS hb0 hS hz (va_P.sub hP [] rfl)) rfl rfl hl.1 rfl (lv_room (Nat.le_of_ble_eq_true rfl)) dX5_write_7 ⟨(Nat.le_of_ble_eq_true rfl), (Nat.le_of_ble_eq_true rfl)⟩ (fun q ce H1 h1 h2 h3 h4 h5 => xt_out hout hlocks h1 h2 h3 (Nat.le_of_ble_eq_true rfl) (Nat.le_of_ble_eq_true rfl))
set_option maxHeartbeats 4000000 in
set_option maxRecDepth 100000 in
theorem t_write_A {l : Launch} {s0 : State} {a0 : Array Value} {dC : Nat → ClassId} {dI : Nat → Nat → Nat} {cA : Nat → ClassId} (h : xC l s0 a0 dC dI cA) (b gr br : Nat) (wr ca : Int32) (ro b0 b1 b2 b3 b4 b5 b6 b7 b8 : Nat) (n : Nat → Int32) (g : Nat → Nat → Int32) (K : Nat) (p1 p2 p3 p4 : Int32) (hKe : p1 &&& 7 = nI K) (hK8 : K < 8) (ht : ¬ p2 = 0) (hc : p3 < 0 ∨ ¬ p3 < n K) : xt_Met l yX5_write [Cond.code yX5_write cX5_write 6 (some .int)] ({ frames := 8, cells := 1, slots := 8, locals := 140 } : Room) (xP s0 (dC, dI) [.ref b, .int p1, .int p2, .int p3, .int p4] [(b, .inr (5, [.ref ro, .ref gr, .ref br, .int wr, .int ca])), (ro, .inr (4, [.ref b0, .ref b1, .ref b2, .ref b3, .ref b4, .ref b5, .ref b6, .ref b7, .ref b8])), (b0, .inl (cA 0, 8, .inl n))]) "java/lang/ArrayIndexOutOfBoundsException" 1 8 := by
  refine xt_ofW (cc := cX5_write) (maxL := 6) (ret := (some .int)) (by decide) rfl ?_
  intro p e s m args below meth c s₁ B hml hout hv
  obtain ⟨rfl, hb0, hP⟩ := hv
  have hx := B.exec
  have hb := B.bytes
  have hr := B.returns
  have hown : s.vm.findClass RX5 = some m.cls := findClass_of_methodNamed B.named
  have hlocks := B.notSynchronized
  have hK := h.K hb0
  have hS : va_S (fun _ : Nat => False) s.heap s.heap [] := va_S.rf
  have hz : ∀ q : Nat, (fun _ : Nat => False) q → s0.heap.size ≤ q := fun _ z => z.elim
  have hl := lv_entry ([.ref b, .int p1, .int p2, .int p3, .int p4]) (n := 6) (Nat.le_of_ble_eq_true rfl)
  rw [lg_entry_eq]
  generalize (lg_sl ([.ref b, .int p1, .int p2, .int p3, .int p4]) ++ List.replicate (6 - (lg_sl ([.ref b, .int p1, .int p2, .int p3, .int p4])).length) Slot.unset).toArray = ls at hl ⊢
  have hl : lv_has ls 6 [(0, .ref b), (1, .int p1), (2, .int p2), (3, .int p3), (4, .int p4)] := hl
  refine lv_iload_n hx hb dX5_write_0 rfl (lv_at hl 1 rfl) ?_
  refine xr_1 (va_runS (As := [.int p1]) (rest := []) ⟨hx, hb, hml, hown, xTs⟩ (c_kindOf h _) ⟨xB (n := 1) (k_137 h hb0) (k_1 h hb0) (k_135 h hb0) (by decide) rfl rfl rfl (by decide) (by decide), (k_136 h hb0)⟩ (xpS hb0 hS hz (va_P.sub hP [] rfl)) rfl rfl hl.1 rfl (lv_room (Nat.le_of_ble_eq_true rfl)) dX5_write_1 ⟨(Nat.le_of_ble_eq_true rfl), (Nat.le_of_ble_eq_true rfl)⟩) ?_
  rw [hKe]
  refine lv_istore (lv' := [(5, .int (nI K)), (0, .ref b), (1, .int p1), (2, .int p2), (3, .int p3), (4, .int p4)]) hx hb dX5_write_4 hl (by decide) rfl (fun ls hl => ?_)
  refine lv_iload_n hx hb dX5_write_6 rfl (lv_at hl 3 rfl) ?_
  refine xr_0 (va_runS (As := [.int p2]) (rest := []) ⟨hx, hb, hml, hown, xTs⟩ (c_needThere h _ ht) ⟨xB (n := 1) (k_140 h hb0) (k_1 h hb0) (k_138 h hb0) (by decide) rfl rfl rfl (by decide) (by decide), (k_139 h hb0)⟩ (xpS hb0 hS hz (va_P.sub hP [] rfl)) rfl rfl hl.1 rfl (lv_room (Nat.le_of_ble_eq_true rfl)) dX5_write_7 ⟨(Nat.le_of_ble_eq_true rfl), (Nat.le_of_ble_eq_true rfl)⟩) ?_
  refine lv_iload_n hx hb dX5_write_10 rfl (lv_at hl 4 rfl) ?_
  refine lv_aload_n hx hb dX5_write_11 rfl (lv_at hl 1 rfl) ?_
  refine va_get (D := (dC, dI)) (ci := 5) (v := .ref ro) (C := RX5) (T := TX5) (N := 5) hx hb (ly_5 h hb0) (fun _ z => z) hown hK hP 0 rfl rfl 0 (by decide) (k_110 h hb0) (fun _ z => z) rfl dX5_write_12 ?_
  refine lv_iload hx hb dX5_write_15 (lv_at hl 0 rfl) ?_
  refine xr_1 (va_runV (As := [.int (nI K)]) (rest := [.int p3]) ⟨hx, hb, hml, hown, xTs⟩ (c_cellCount h ro b0 b1 b2 b3 b4 b5 b6 b7 b8 n g (nI K) (vp_in_nI hK8 (by decide))) ⟨xB (n := 1) (k_229 h hb0) (k_2 h hb0) (k_226 h hb0) (by decide) rfl rfl rfl (by decide) (by decide), (k_227 h hb0), (k_228 h hb0)⟩ (xpV hb0 hS hz (va_P.sub hP [1, 2] rfl) (va_recv hK hP (ci := 4) (q0 := 1) rfl rfl)) rfl rfl hl.1 rfl (lv_room (Nat.le_of_ble_eq_true rfl)) dX5_write_17 ⟨(Nat.le_of_ble_eq_true rfl), (Nat.le_of_ble_eq_true rfl)⟩) ?_
  rw [nI_clamp (Nat.lt_trans hK8 (by decide))]
  exact xt_callS (As := [.int p3, .int (n K)]) (rest := []) ⟨hx, hb, hml, hown, xTs⟩ (t_needPlace h _ _ hc) ⟨xB (n := 2) (k_232 h hb0) (k_1 h hb0) (k_230 h hb0) (by decide) rfl rfl rfl (by decide) (by decide), (k_231 h hb0)⟩ (xpS hb0 hS hz (va_P.sub hP [] rfl)) rfl rfl hl.1 rfl (lv_room (Nat.le_of_ble_eq_true rfl)) dX5_write_20 ⟨(Nat.le_of_ble_eq_true rfl), (Nat.le_of_ble_eq_true rfl)⟩ (fun q ce H1 h1 h2 h3 h4 h5 => xt_out hout hlocks h1 h2 h3 (Nat.le_of_ble_eq_true rfl) (Nat.le_of_ble_eq_true rfl))
set_option maxHeartbeats 4000000 in
set_option maxRecDepth 100000 in
theorem c_length {l : Launch} {s0 : State} {a0 : Array Value} {dC : Nat → ClassId} {dI : Nat → Nat → Nat} {cA : Nat → ClassId} (h : xC l s0 a0 dC dI cA) (b gr br : Nat) (wr ca : Int32) (ro b0 b1 b2 b3 b4 b5 b6 b7 b8 : Nat) (n : Nat → Int32) (g : Nat → Nat → Int32) (K : Nat) (p1 p2 : Int32) (hKe : p1 &&& 7 = nI K) (hK8 : K < 8) (ht : ¬ p2 = 0) : Met l yX5_length [Cond.code yX5_length cX5_length 3 (some .int)] ({ frames := 1, cells := 0, slots := 0, locals := 40 } : Room) (xP s0 (dC, dI) [.ref b, .int p1, .int p2] [(b, .inr (5, [.ref ro, .ref gr, .ref br, .int wr, .int ca])), (ro, .inr (4, [.ref b0, .ref b1, .ref b2, .ref b3, .ref b4, .ref b5, .ref b6, .ref b7, .ref b8])), (b0, .inl (cA 0, 8, .inl n))]) (xR (some (.int (n K)))) 0 0 (fun _ => False) := by
  refine Met.ofW (cc := cX5_length) (maxL := 3) (ret := (some .int)) (by decide) rfl ?_
  intro p e s m args below meth c s₁ B hml hv
  obtain ⟨rfl, hb0, hP⟩ := hv
  have hx := B.exec
  have hb := B.bytes
  have hr := B.returns
  have hown : s.vm.findClass RX5 = some m.cls := findClass_of_methodNamed B.named
  have hlocks := B.notSynchronized
  have hK := h.K hb0
  have hS : va_S (fun _ : Nat => False) s.heap s.heap [] := va_S.rf
  have hz : ∀ q : Nat, (fun _ : Nat => False) q → s0.heap.size ≤ q := fun _ z => z.elim
  have hl := lv_entry ([.ref b, .int p1, .int p2]) (n := 3) (Nat.le_of_ble_eq_true rfl)
  rw [lg_entry_eq]
  generalize (lg_sl ([.ref b, .int p1, .int p2]) ++ List.replicate (3 - (lg_sl ([.ref b, .int p1, .int p2])).length) Slot.unset).toArray = ls at hl ⊢
  have hl : lv_has ls 3 [(0, .ref b), (1, .int p1), (2, .int p2)] := hl
  refine lv_iload_n hx hb dX5_length_0 rfl (lv_at hl 2 rfl) ?_
  refine xr_0 (va_runS (As := [.int p2]) (rest := []) ⟨hx, hb, hml, hown, xTs⟩ (c_needThere h _ ht) ⟨xB (n := 1) (k_140 h hb0) (k_1 h hb0) (k_138 h hb0) (by decide) rfl rfl rfl (by decide) (by decide), (k_139 h hb0)⟩ (xpS hb0 hS hz (va_P.sub hP [] rfl)) rfl rfl hl.1 rfl (lv_room (Nat.le_of_ble_eq_true rfl)) dX5_length_1 ⟨(Nat.le_of_ble_eq_true rfl), (Nat.le_of_ble_eq_true rfl)⟩) ?_
  refine lv_aload_n hx hb dX5_length_4 rfl (lv_at hl 0 rfl) ?_
  refine va_get (D := (dC, dI)) (ci := 5) (v := .ref ro) (C := RX5) (T := TX5) (N := 5) hx hb (ly_5 h hb0) (fun _ z => z) hown hK hP 0 rfl rfl 0 (by decide) (k_110 h hb0) (fun _ z => z) rfl dX5_length_5 ?_
  refine lv_iload_n hx hb dX5_length_8 rfl (lv_at hl 1 rfl) ?_
  refine xr_1 (va_runS (As := [.int p1]) (rest := [.ref ro]) ⟨hx, hb, hml, hown, xTs⟩ (c_kindOf h _) ⟨xB (n := 1) (k_137 h hb0) (k_1 h hb0) (k_135 h hb0) (by decide) rfl rfl rfl (by decide) (by decide), (k_136 h hb0)⟩ (xpS hb0 hS hz (va_P.sub hP [] rfl)) rfl rfl hl.1 rfl (lv_room (Nat.le_of_ble_eq_true rfl)) dX5_length_9 ⟨(Nat.le_of_ble_eq_true rfl), (Nat.le_of_ble_eq_true rfl)⟩) ?_
  rw [hKe]
  refine xr_1 (va_runV (As := [.int (nI K)]) (rest := []) ⟨hx, hb, hml, hown, xTs⟩ (c_cellCount h ro b0 b1 b2 b3 b4 b5 b6 b7 b8 n g (nI K) (vp_in_nI hK8 (by decide))) ⟨xB (n := 1) (k_229 h hb0) (k_2 h hb0) (k_226 h hb0) (by decide) rfl rfl rfl (by decide) (by decide), (k_227 h hb0), (k_228 h hb0)⟩ (xpV hb0 hS hz (va_P.sub hP [1, 2] rfl) (va_recv hK hP (ci := 4) (q0 := 1) rfl rfl)) rfl rfl hl.1 rfl (lv_room (Nat.le_of_ble_eq_true rfl)) dX5_length_12 ⟨(Nat.le_of_ble_eq_true rfl), (Nat.le_of_ble_eq_true rfl)⟩) ?_
  rw [nI_clamp (Nat.lt_trans hK8 (by decide))]
  exact W.iret hx hb hr (fun t ht _ => ⟨rfl, ht⟩) (fun q z => nomatch z) dX5_length_15
set_option maxHeartbeats 4000000 in
set_option maxRecDepth 100000 in
theorem t_length_N {l : Launch} {s0 : State} {a0 : Array Value} {dC : Nat → ClassId} {dI : Nat → Nat → Nat} {cA : Nat → ClassId} (h : xC l s0 a0 dC dI cA) (b gr br : Nat) (wr ca : Int32) (ro b0 b1 b2 b3 b4 b5 b6 b7 b8 : Nat) (n : Nat → Int32) (g : Nat → Nat → Int32) (K : Nat) (p1 p2 : Int32) (ht : p2 = 0) : xt_Met l yX5_length [Cond.code yX5_length cX5_length 3 (some .int)] ({ frames := 8, cells := 1, slots := 8, locals := 140 } : Room) (xP s0 (dC, dI) [.ref b, .int p1, .int p2] [(b, .inr (5, [.ref ro, .ref gr, .ref br, .int wr, .int ca])), (ro, .inr (4, [.ref b0, .ref b1, .ref b2, .ref b3, .ref b4, .ref b5, .ref b6, .ref b7, .ref b8])), (b0, .inl (cA 0, 8, .inl n))]) "java/lang/NullPointerException" 1 8 := by
  refine xt_ofW (cc := cX5_length) (maxL := 3) (ret := (some .int)) (by decide) rfl ?_
  intro p e s m args below meth c s₁ B hml hout hv
  obtain ⟨rfl, hb0, hP⟩ := hv
  have hx := B.exec
  have hb := B.bytes
  have hr := B.returns
  have hown : s.vm.findClass RX5 = some m.cls := findClass_of_methodNamed B.named
  have hlocks := B.notSynchronized
  have hK := h.K hb0
  have hS : va_S (fun _ : Nat => False) s.heap s.heap [] := va_S.rf
  have hz : ∀ q : Nat, (fun _ : Nat => False) q → s0.heap.size ≤ q := fun _ z => z.elim
  have hl := lv_entry ([.ref b, .int p1, .int p2]) (n := 3) (Nat.le_of_ble_eq_true rfl)
  rw [lg_entry_eq]
  generalize (lg_sl ([.ref b, .int p1, .int p2]) ++ List.replicate (3 - (lg_sl ([.ref b, .int p1, .int p2])).length) Slot.unset).toArray = ls at hl ⊢
  have hl : lv_has ls 3 [(0, .ref b), (1, .int p1), (2, .int p2)] := hl
  refine lv_iload_n hx hb dX5_length_0 rfl (lv_at hl 2 rfl) ?_
  exact xt_callS (As := [.int p2]) (rest := []) ⟨hx, hb, hml, hown, xTs⟩ (t_needThere h _ ht) ⟨xB (n := 1) (k_140 h hb0) (k_1 h hb0) (k_138 h hb0) (by decide) rfl rfl rfl (by decide) (by decide), (k_139 h hb0)⟩ (xpS hb0 hS hz (va_P.sub hP [] rfl)) rfl rfl hl.1 rfl (lv_room (Nat.le_of_ble_eq_true rfl)) dX5_length_1 ⟨(Nat.le_of_ble_eq_true rfl), (Nat.le_of_ble_eq_true rfl)⟩ (fun q ce H1 h1 h2 h3 h4 h5 => xt_out hout hlocks h1 h2 h3 (Nat.le_of_ble_eq_true rfl) (Nat.le_of_ble_eq_true rfl))
set_option maxHeartbeats 4000000 in
set_option maxRecDepth 100000 in
theorem c_make {l : Launch} {s0 : State} {a0 : Array Value} {dC : Nat → ClassId} {dI : Nat → Nat → Nat} {cA : Nat → ClassId} (h : xC l s0 a0 dC dI cA) (b gr br : Nat) (wr ca : Int32) (ro b0 b1 b2 b3 b4 b5 b6 b7 b8 : Nat) (n : Nat → Int32) (g : Nat → Nat → Int32) (K N : Nat) (p1 p2 : Int32) (sz : Nat) (hKe : p1 &&& 7 = nI K) (hK8 : K < 8) (hN : p2 - p2 / 40 * 40 = nI N) (hN4 : N < 40) : Met l yX5_make [Cond.code yX5_make cX5_make 4 (some .int)] ({ frames := 2, cells := 0, slots := 0, locals := 80 } : Room) (xPM s0 (dC, dI) [.ref b, .int p1, .int p2] [(b, .inr (5, [.ref ro, .ref gr, .ref br, .int wr, .int ca])), (ro, .inr (4, [.ref b0, .ref b1, .ref b2, .ref b3, .ref b4, .ref b5, .ref b6, .ref b7, .ref b8]))] [(b0, .inl (cA 0, 8, .inl n)), (b1, .inl (cA 0, 39, .inl (r0 g))), (b2, .inl (cA 1, 39, .inr (.inl (r1 g)))), (b3, .inl (cA 2, 39, .inl (r2 g))), (b4, .inl (cA 3, 39, .inl (r3 g))), (b5, .inl (cA 4, 39, .inl (r4 g))), (b6, .inl (cA 5, 39, .inl (r5 g))), (b7, .inl (cA 6, 39, .inr (.inr (.inl (r6 g))))), (b8, .inl (cA 7, 39, .inr (.inr (.inr (.inl (r7 g))))))] sz) (xQM (dC, dI) (va_A [(b0, .inl (cA 0, 8, .inl n)), (b1, .inl (cA 0, 39, .inl (r0 g))), (b2, .inl (cA 1, 39, .inr (.inl (r1 g)))), (b3, .inl (cA 2, 39, .inl (r2 g))), (b4, .inl (cA 3, 39, .inl (r3 g))), (b5, .inl (cA 4, 39, .inl (r4 g))), (b6, .inl (cA 5, 39, .inl (r5 g))), (b7, .inl (cA 6, 39, .inr (.inr (.inl (r6 g))))), (b8, .inl (cA 7, 39, .inr (.inr (.inr (.inl (r7 g))))))] sz) (fun r w1 => r = some (.int (nI N)) ∧ w1 = [(b0, .inl (cA 0, 8, .inl (upd n K (nI N)))), (b1, .inl (cA 0, 39, .inl (r0 (gz g K N)))), (b2, .inl (cA 1, 39, .inr (.inl (r1 (gz g K N))))), (b3, .inl (cA 2, 39, .inl (r2 (gz g K N)))), (b4, .inl (cA 3, 39, .inl (r3 (gz g K N)))), (b5, .inl (cA 4, 39, .inl (r4 (gz g K N)))), (b6, .inl (cA 5, 39, .inl (r5 (gz g K N)))), (b7, .inl (cA 6, 39, .inr (.inr (.inl (r6 (gz g K N)))))), (b8, .inl (cA 7, 39, .inr (.inr (.inr (.inl (r7 (gz g K N)))))))])) 0 0 (va_A [(b0, .inl (cA 0, 8, .inl n)), (b1, .inl (cA 0, 39, .inl (r0 g))), (b2, .inl (cA 1, 39, .inr (.inl (r1 g)))), (b3, .inl (cA 2, 39, .inl (r2 g))), (b4, .inl (cA 3, 39, .inl (r3 g))), (b5, .inl (cA 4, 39, .inl (r4 g))), (b6, .inl (cA 5, 39, .inl (r5 g))), (b7, .inl (cA 6, 39, .inr (.inr (.inl (r6 g))))), (b8, .inl (cA 7, 39, .inr (.inr (.inr (.inl (r7 g))))))] sz) := by
  refine Met.ofW (cc := cX5_make) (maxL := 4) (ret := (some .int)) (by decide) rfl ?_
  intro p e s m args below meth c s₁ B hml hv
  obtain ⟨rfl, rfl, hb0, hPr, hP, hD0⟩ := hv
  have hx := B.exec
  have hb := B.bytes
  have hr := B.returns
  have hown : s.vm.findClass RX5 = some m.cls := findClass_of_methodNamed B.named
  have hlocks := B.notSynchronized
  have hK := h.K hb0
  have hS : va_S (va_A [(b0, .inl (cA 0, 8, .inl n)), (b1, .inl (cA 0, 39, .inl (r0 g))), (b2, .inl (cA 1, 39, .inr (.inl (r1 g)))), (b3, .inl (cA 2, 39, .inl (r2 g))), (b4, .inl (cA 3, 39, .inl (r3 g))), (b5, .inl (cA 4, 39, .inl (r4 g))), (b6, .inl (cA 5, 39, .inl (r5 g))), (b7, .inl (cA 6, 39, .inr (.inr (.inl (r6 g))))), (b8, .inl (cA 7, 39, .inr (.inr (.inr (.inl (r7 g))))))] s.heap.size) s.heap s.heap [] := va_S.rf
  obtain ⟨A, hAe, hD, hA, hz, hRo, hwk, hnR⟩ := xM_start hb0 hPr hP hD0
  rw [hAe] at hS ⊢
  have hl := lv_entry ([.ref b, .int p1, .int p2]) (n := 4) (Nat.le_of_ble_eq_true rfl)
  rw [lg_entry_eq]
  generalize (lg_sl ([.ref b, .int p1, .int p2]) ++ List.replicate (4 - (lg_sl ([.ref b, .int p1, .int p2])).length) Slot.unset).toArray = ls at hl ⊢
  have hl : lv_has ls 4 [(0, .ref b), (1, .int p1), (2, .int p2)] := hl
  refine lv_iload_n hx hb dX5_make_0 rfl (lv_at hl 2 rfl) ?_
  refine lv_bipush (v := 40) hx hb dX5_make_1 (by decide) ?_
  refine lv_irem hx hb dX5_make_3 (by decide) ?_
  rw [hN]
  refine lv_istore_n (lv' := [(3, .int (nI N)), (0, .ref b), (1, .int p1), (2, .int p2)]) hx hb dX5_make_4 rfl hl (by decide) rfl (fun ls hl => ?_)
  refine lv_iload_n hx hb dX5_make_5 rfl (lv_at hl 0 rfl) ?_
  refine xr_0 (va_runS (As := [.int (nI N)]) (rest := []) ⟨hx, hb, hml, hown, xTs⟩ (c_needSize h _ (nI_pos (by omega))) ⟨xB (n := 1) (k_286 h hb0) (k_1 h hb0) (k_284 h hb0) (by decide) rfl rfl rfl (by decide) (by decide), (k_285 h hb0)⟩ (xpS hb0 hS hz (va_P.sub (hRo _ _ hS) [] rfl)) rfl rfl hl.1 rfl (lv_room (Nat.le_of_ble_eq_true rfl)) dX5_make_6 ⟨(Nat.le_of_ble_eq_true rfl), (Nat.le_of_ble_eq_true rfl)⟩) ?_
  refine lv_aload_n hx hb dX5_make_9 rfl (lv_at hl 1 rfl) ?_
  refine va_get (D := (dC, dI)) (ci := 5) (v := .ref ro) (C := RX5) (T := TX5) (N := 5) hx hb (ly_5 h hb0) (fun _ z => z) hown hK (hRo _ _ hS) 0 rfl rfl 0 (by decide) (k_110 h hb0) (fun _ z => z) rfl dX5_make_10 ?_
  refine lv_iload_n hx hb dX5_make_13 rfl (lv_at hl 2 rfl) ?_
  refine xr_1 (va_runS (As := [.int p1]) (rest := [.ref ro]) ⟨hx, hb, hml, hown, xTs⟩ (c_kindOf h _) ⟨xB (n := 1) (k_137 h hb0) (k_1 h hb0) (k_135 h hb0) (by decide) rfl rfl rfl (by decide) (by decide), (k_136 h hb0)⟩ (xpS hb0 hS hz (va_P.sub (hRo _ _ hS) [] rfl)) rfl rfl hl.1 rfl (lv_room (Nat.le_of_ble_eq_true rfl)) dX5_make_14 ⟨(Nat.le_of_ble_eq_true rfl), (Nat.le_of_ble_eq_true rfl)⟩) ?_
  rw [hKe]
  refine lv_iload_n hx hb dX5_make_17 rfl (lv_at hl 0 rfl) ?_
  refine xm_of (wc := [(b0, .inl (cA 0, 8, .inl n)), (b1, .inl (cA 0, 39, .inl (r0 g))), (b2, .inl (cA 1, 39, .inr (.inl (r1 g)))), (b3, .inl (cA 2, 39, .inl (r2 g))), (b4, .inl (cA 3, 39, .inl (r3 g))), (b5, .inl (cA 4, 39, .inl (r4 g))), (b6, .inl (cA 5, 39, .inl (r5 g))), (b7, .inl (cA 6, 39, .inr (.inr (.inl (r6 g))))), (b8, .inl (cA 7, 39, .inr (.inr (.inr (.inl (r7 g))))))]) (wo := []) (va_runV (As := [.int (nI K), .int (nI N)]) (rest := []) ⟨hx, hb, hml, hown, xTs⟩ (c_renew h ro b0 b1 b2 b3 b4 b5 b6 b7 b8 n g K N _ hK8 hN4) ⟨xB (n := 2) (k_306 h hb0) (k_2 h hb0) (k_303 h hb0) (by decide) rfl rfl rfl (by decide) (by decide), (k_304 h hb0), (k_305 h hb0)⟩ (xpMV (wr := [(ro, .inr (4, [.ref b0, .ref b1, .ref b2, .ref b3, .ref b4, .ref b5, .ref b6, .ref b7, .ref b8]))]) (wc := [(b0, .inl (cA 0, 8, .inl n)), (b1, .inl (cA 0, 39, .inl (r0 g))), (b2, .inl (cA 1, 39, .inr (.inl (r1 g)))), (b3, .inl (cA 2, 39, .inl (r2 g))), (b4, .inl (cA 3, 39, .inl (r3 g))), (b5, .inl (cA 4, 39, .inl (r4 g))), (b6, .inl (cA 5, 39, .inl (r5 g))), (b7, .inl (cA 6, 39, .inr (.inr (.inl (r6 g))))), (b8, .inl (cA 7, 39, .inr (.inr (.inr (.inl (r7 g))))))]) hb0 hS hz (va_P.sub (hRo _ _ hS) [1] rfl) (va_P.sub hP [0, 1, 2, 3, 4, 5, 6, 7, 8] rfl) (va_D.sub (xDD (xDl hD0) hD hz hnR) [1, 2, 3, 4, 5, 6, 7, 8, 9, 10] rfl rfl) (va_recv hK (hRo _ _ hS) (ci := 4) (q0 := 1) rfl rfl)) rfl rfl hl.1 rfl (lv_room (Nat.le_of_ble_eq_true rfl)) dX5_make_18 ⟨(Nat.le_of_ble_eq_true rfl), (Nat.le_of_ble_eq_true rfl)⟩) hP hD hS hA [0, 1, 2, 3, 4, 5, 6, 7, 8] [] rfl rfl rfl (by decide) (fun r w1 H locs hΦ hP hD hS => ?_)
  obtain ⟨rfl, rfl⟩ := hΦ
  have hP : va_P (dC, dI) vwCl [(b0, .inl (cA 0, 8, .inl (upd n K (nI N)))), (b1, .inl (cA 0, 39, .inl (r0 (gz g K N)))), (b2, .inl (cA 1, 39, .inr (.inl (r1 (gz g K N))))), (b3, .inl (cA 2, 39, .inl (r2 (gz g K N)))), (b4, .inl (cA 3, 39, .inl (r3 (gz g K N)))), (b5, .inl (cA 4, 39, .inl (r4 (gz g K N)))), (b6, .inl (cA 5, 39, .inl (r5 (gz g K N)))), (b7, .inl (cA 6, 39, .inr (.inr (.inl (r6 (gz g K N)))))), (b8, .inl (cA 7, 39, .inr (.inr (.inr (.inl (r7 (gz g K N)))))))] H := hP
  have hD : va_D A [(b0, .inl (cA 0, 8, .inl (upd n K (nI N)))), (b1, .inl (cA 0, 39, .inl (r0 (gz g K N)))), (b2, .inl (cA 1, 39, .inr (.inl (r1 (gz g K N))))), (b3, .inl (cA 2, 39, .inl (r2 (gz g K N)))), (b4, .inl (cA 3, 39, .inl (r3 (gz g K N)))), (b5, .inl (cA 4, 39, .inl (r4 (gz g K N)))), (b6, .inl (cA 5, 39, .inl (r5 (gz g K N)))), (b7, .inl (cA 6, 39, .inr (.inr (.inl (r6 (gz g K N)))))), (b8, .inl (cA 7, 39, .inr (.inr (.inr (.inl (r7 (gz g K N)))))))] := hD
  refine lv_iload_n hx hb dX5_make_21 rfl (lv_at hl 0 rfl) ?_
  exact W.iret hx hb hr (fun t ht _ => ⟨(some (.int (nI N))), _, rfl, ⟨rfl, rfl⟩, by rw [ht]; exact hP, hD, hS.F ht⟩) (fun q z => hS.2.2 q z) dX5_make_22
set_option maxHeartbeats 4000000 in
set_option maxRecDepth 100000 in
theorem t_make_S {l : Launch} {s0 : State} {a0 : Array Value} {dC : Nat → ClassId} {dI : Nat → Nat → Nat} {cA : Nat → ClassId} (h : xC l s0 a0 dC dI cA) (b gr br : Nat) (wr ca : Int32) (ro b0 b1 b2 b3 b4 b5 b6 b7 b8 : Nat) (n : Nat → Int32) (g : Nat → Nat → Int32) (K N : Nat) (p1 p2 : Int32) (hc : p2 - p2 / 40 * 40 < 0) : xt_Met l yX5_make [Cond.code yX5_make cX5_make 4 (some .int)] ({ frames := 8, cells := 1, slots := 8, locals := 140 } : Room) (xP s0 (dC, dI) [.ref b, .int p1, .int p2] [(b, .inr (5, [.ref ro, .ref gr, .ref br, .int wr, .int ca]))]) "java/lang/NegativeArraySizeException" 1 8 := by
  refine xt_ofW (cc := cX5_make) (maxL := 4) (ret := (some .int)) (by decide) rfl ?_
  intro p e s m args below meth c s₁ B hml hout hv
  obtain ⟨rfl, hb0, hP⟩ := hv
  have hx := B.exec
  have hb := B.bytes
  have hr := B.returns
  have hown : s.vm.findClass RX5 = some m.cls := findClass_of_methodNamed B.named
  have hlocks := B.notSynchronized
  have hK := h.K hb0
  have hS : va_S (fun _ : Nat => False) s.heap s.heap [] := va_S.rf
  have hz : ∀ q : Nat, (fun _ : Nat => False) q → s0.heap.size ≤ q := fun _ z => z.elim
  have hl := lv_entry ([.ref b, .int p1, .int p2]) (n := 4) (Nat.le_of_ble_eq_true rfl)
  rw [lg_entry_eq]
  generalize (lg_sl ([.ref b, .int p1, .int p2]) ++ List.replicate (4 - (lg_sl ([.ref b, .int p1, .int p2])).length) Slot.unset).toArray = ls at hl ⊢
  have hl : lv_has ls 4 [(0, .ref b), (1, .int p1), (2, .int p2)] := hl
  refine lv_iload_n hx hb dX5_make_0 rfl (lv_at hl 2 rfl) ?_
  refine lv_bipush (v := 40) hx hb dX5_make_1 (by decide) ?_
  refine lv_irem hx hb dX5_make_3 (by decide) ?_
  refine lv_istore_n (lv' := [(3, .int (p2 - p2 / 40 * 40)), (0, .ref b), (1, .int p1), (2, .int p2)]) hx hb dX5_make_4 rfl hl (by decide) rfl (fun ls hl => ?_)
  refine lv_iload_n hx hb dX5_make_5 rfl (lv_at hl 0 rfl) ?_
  exact xt_callS (As := [.int (p2 - p2 / 40 * 40)]) (rest := []) ⟨hx, hb, hml, hown, xTs⟩ (t_needSize h _ hc) ⟨xB (n := 1) (k_286 h hb0) (k_1 h hb0) (k_284 h hb0) (by decide) rfl rfl rfl (by decide) (by decide), (k_285 h hb0)⟩ (xpS hb0 hS hz (va_P.sub hP [] rfl)) rfl rfl hl.1 rfl (lv_room (Nat.le_of_ble_eq_true rfl)) dX5_make_6 ⟨(Nat.le_of_ble_eq_true rfl), (Nat.le_of_ble_eq_true rfl)⟩ (fun q ce H1 h1 h2 h3 h4 h5 => xt_out hout hlocks h1 h2 h3 (Nat.le_of_ble_eq_true rfl) (Nat.le_of_ble_eq_true rfl))
set_option maxHeartbeats 4000000 in
set_option maxRecDepth 100000 in
theorem c_grid {l : Launch} {s0 : State} {a0 : Array Value} {dC : Nat → ClassId} {dI : Nat → Nat → Nat} {cA : Nat → ClassId} (h : xC l s0 a0 dC dI cA) (b gr br : Nat) (wr ca : Int32) (ro gc : Nat) (z1 z2 z3 p1 p2 : Int32) (sz : Nat) (hc : ¬ p1 - p1 / 9 * 9 < 0) (hd : ¬ p2 - p2 / 9 * 9 < 0) : Met l yX5_grid [Cond.code yX5_grid cX5_grid 5 (some .int)] ({ frames := 1, cells := 0, slots := 0, locals := 40 } : Room) (xPM s0 (dC, dI) [.ref b, .int p1, .int p2] [(b, .inr (5, [.ref ro, .ref gr, .ref br, .int wr, .int ca]))] [(gr, .inr (3, [.ref gc, .int z1, .int z2, .int z3]))] sz) (xQM (dC, dI) (va_A [(gr, .inr (3, [.ref gc, .int z1, .int z2, .int z3]))] sz) (fun r w1 => r = some (.int ((p1 - p1 / 9 * 9) * (p2 - p2 / 9 * 9))) ∧ w1 = [(gr, .inr (3, [.ref gc, .int 1, .int (p1 - p1 / 9 * 9), .int (p2 - p2 / 9 * 9)]))])) 0 0 (va_A [(gr, .inr (3, [.ref gc, .int z1, .int z2, .int z3]))] sz) := by
  refine Met.ofW (cc := cX5_grid) (maxL := 5) (ret := (some .int)) (by decide) rfl ?_
  intro p e s m args below meth c s₁ B hml hv
  obtain ⟨rfl, rfl, hb0, hPr, hP, hD0⟩ := hv
  have hx := B.exec
  have hb := B.bytes
  have hr := B.returns
  have hown : s.vm.findClass RX5 = some m.cls := findClass_of_methodNamed B.named
  have hlocks := B.notSynchronized
  have hK := h.K hb0
  have hS : va_S (va_A [(gr, .inr (3, [.ref gc, .int z1, .int z2, .int z3]))] s.heap.size) s.heap s.heap [] := va_S.rf
  obtain ⟨A, hAe, hD, hA, hz, hRo, hwk, hnR⟩ := xM_start hb0 hPr hP hD0
  rw [hAe] at hS ⊢
  have hl := lv_entry ([.ref b, .int p1, .int p2]) (n := 5) (Nat.le_of_ble_eq_true rfl)
  rw [lg_entry_eq]
  generalize (lg_sl ([.ref b, .int p1, .int p2]) ++ List.replicate (5 - (lg_sl ([.ref b, .int p1, .int p2])).length) Slot.unset).toArray = ls at hl ⊢
  have hl : lv_has ls 5 [(0, .ref b), (1, .int p1), (2, .int p2)] := hl
  refine lv_iload_n hx hb dX5_grid_0 rfl (lv_at hl 1 rfl) ?_
  refine lv_bipush (v := 9) hx hb dX5_grid_1 (by decide) ?_
  refine lv_irem hx hb dX5_grid_3 (by decide) ?_
  refine lv_istore_n (lv' := [(3, .int (p1 - p1 / 9 * 9)), (0, .ref b), (1, .int p1), (2, .int p2)]) hx hb dX5_grid_4 rfl hl (by decide) rfl (fun ls hl => ?_)
  refine lv_iload_n hx hb dX5_grid_5 rfl (lv_at hl 3 rfl) ?_
  refine lv_bipush (v := 9) hx hb dX5_grid_6 (by decide) ?_
  refine lv_irem hx hb dX5_grid_8 (by decide) ?_
  refine lv_istore (lv' := [(4, .int (p2 - p2 / 9 * 9)), (3, .int (p1 - p1 / 9 * 9)), (0, .ref b), (1, .int p1), (2, .int p2)]) hx hb dX5_grid_9 hl (by decide) rfl (fun ls hl => ?_)
  refine lv_iload_n hx hb dX5_grid_11 rfl (lv_at hl 1 rfl) ?_
  refine xr_0 (va_runS (As := [.int (p1 - p1 / 9 * 9)]) (rest := []) ⟨hx, hb, hml, hown, xTs⟩ (c_needSize h _ hc) ⟨xB (n := 1) (k_286 h hb0) (k_1 h hb0) (k_284 h hb0) (by decide) rfl rfl rfl (by decide) (by decide), (k_285 h hb0)⟩ (xpS hb0 hS hz (va_P.sub (hRo _ _ hS) [] rfl)) rfl rfl hl.1 rfl (lv_room (Nat.le_of_ble_eq_true rfl)) dX5_grid_12 ⟨(Nat.le_of_ble_eq_true rfl), (Nat.le_of_ble_eq_true rfl)⟩) ?_
  refine lv_iload hx hb dX5_grid_15 (lv_at hl 0 rfl) ?_
  refine xr_0 (va_runS (As := [.int (p2 - p2 / 9 * 9)]) (rest := []) ⟨hx, hb, hml, hown, xTs⟩ (c_needSize h _ hd) ⟨xB (n := 1) (k_286 h hb0) (k_1 h hb0) (k_284 h hb0) (by decide) rfl rfl rfl (by decide) (by decide), (k_285 h hb0)⟩ (xpS hb0 hS hz (va_P.sub (hRo _ _ hS) [] rfl)) rfl rfl hl.1 rfl (lv_room (Nat.le_of_ble_eq_true rfl)) dX5_grid_17 ⟨(Nat.le_of_ble_eq_true rfl), (Nat.le_of_ble_eq_true rfl)⟩) ?_
  refine lv_aload_n hx hb dX5_grid_20 rfl (lv_at hl 2 rfl) ?_
  refine va_get (D := (dC, dI)) (ci := 5) (v := .ref gr) (C := RX5) (T := TX5) (N := 5) hx hb (ly_5 h hb0) (fun _ z => z) hown hK (hRo _ _ hS) 0 rfl rfl 1 (by decide) (k_111 h hb0) (fun _ z => z) rfl dX5_grid_21 ?_
  refine lv_iload_n hx hb dX5_grid_24 rfl (lv_at hl 1 rfl) ?_
  refine lv_iload hx hb dX5_grid_25 (lv_at hl 0 rfl) ?_
  refine xm_of (wc := [(gr, .inr (3, [.ref gc, .int z1, .int z2, .int z3]))]) (wo := []) (va_runV (As := [.int (p1 - p1 / 9 * 9), .int (p2 - p2 / 9 * 9)]) (rest := []) ⟨hx, hb, hml, hown, xTs⟩ (c_grenew h gr gc z1 z2 z3 _ _ _) ⟨xB (n := 2) (k_318 h hb0) (k_3 h hb0) (k_315 h hb0) (by decide) rfl rfl rfl (by decide) (by decide), (k_316 h hb0), (k_317 h hb0)⟩ (xpMV (wr := []) (wc := [(gr, .inr (3, [.ref gc, .int z1, .int z2, .int z3]))]) hb0 hS hz (va_P.sub hP [] rfl) (va_P.sub hP [0] rfl) (va_D.sub (xDD (xDl hD0) hD hz hnR) [1] rfl rfl) (va_recv hK hP (ci := 3) (q0 := 0) rfl rfl)) rfl rfl hl.1 rfl (lv_room (Nat.le_of_ble_eq_true rfl)) dX5_grid_27 ⟨(Nat.le_of_ble_eq_true rfl), (Nat.le_of_ble_eq_true rfl)⟩) hP hD hS hA [0] [] rfl rfl rfl (by decide) (fun r w1 H locs hΦ hP hD hS => ?_)
  obtain ⟨rfl, rfl⟩ := hΦ
  have hP : va_P (dC, dI) vwCl [(gr, .inr (3, [.ref gc, .int 1, .int (p1 - p1 / 9 * 9), .int (p2 - p2 / 9 * 9)]))] H := hP
  have hD : va_D A [(gr, .inr (3, [.ref gc, .int 1, .int (p1 - p1 / 9 * 9), .int (p2 - p2 / 9 * 9)]))] := hD
  refine lv_iload_n hx hb dX5_grid_30 rfl (lv_at hl 1 rfl) ?_
  refine lv_iload hx hb dX5_grid_31 (lv_at hl 0 rfl) ?_
  refine lv_imul hx hb dX5_grid_33 ?_
  exact W.iret hx hb hr (fun t ht _ => ⟨(some (.int ((p1 - p1 / 9 * 9) * (p2 - p2 / 9 * 9)))), _, rfl, ⟨rfl, rfl⟩, by rw [ht]; exact hP, hD, hS.F ht⟩) (fun q z => hS.2.2 q z) dX5_grid_34
set_option maxHeartbeats 4000000 in
set_option maxRecDepth 100000 in
theorem t_grid_1 {l : Launch} {s0 : State} {a0 : Array Value} {dC : Nat → ClassId} {dI : Nat → Nat → Nat} {cA : Nat → ClassId} (h : xC l s0 a0 dC dI cA) (b gr br : Nat) (wr ca : Int32) (ro gc : Nat) (z1 z2 z3 p1 p2 : Int32) (hc : p1 - p1 / 9 * 9 < 0) : xt_Met l yX5_grid [Cond.code yX5_grid cX5_grid 5 (some .int)] ({ frames := 8, cells := 1, slots := 8, locals := 140 } : Room) (xP s0 (dC, dI) [.ref b, .int p1, .int p2] [(b, .inr (5, [.ref ro, .ref gr, .ref br, .int wr, .int ca]))]) "java/lang/NegativeArraySizeException" 1 8 := by
  refine xt_ofW (cc := cX5_grid) (maxL := 5) (ret := (some .int)) (by decide) rfl ?_
  intro p e s m args below meth c s₁ B hml hout hv
  obtain ⟨rfl, hb0, hP⟩ := hv
  have hx := B.exec
  have hb := B.bytes
  have hr := B.returns
  have hown : s.vm.findClass RX5 = some m.cls := findClass_of_methodNamed B.named
  have hlocks := B.notSynchronized
  have hK := h.K hb0
  have hS : va_S (fun _ : Nat => False) s.heap s.heap [] := va_S.rf
  have hz : ∀ q : Nat, (fun _ : Nat => False) q → s0.heap.size ≤ q := fun _ z => z.elim
  have hl := lv_entry ([.ref b, .int p1, .int p2]) (n := 5) (Nat.le_of_ble_eq_true rfl)
  rw [lg_entry_eq]
  generalize (lg_sl ([.ref b, .int p1, .int p2]) ++ List.replicate (5 - (lg_sl ([.ref b, .int p1, .int p2])).length) Slot.unset).toArray = ls at hl ⊢
  have hl : lv_has ls 5 [(0, .ref b), (1, .int p1), (2, .int p2)] := hl
  refine lv_iload_n hx hb dX5_grid_0 rfl (lv_at hl 1 rfl) ?_
  refine lv_bipush (v := 9) hx hb dX5_grid_1 (by decide) ?_
  refine lv_irem hx hb dX5_grid_3 (by decide) ?_
  refine lv_istore_n (lv' := [(3, .int (p1 - p1 / 9 * 9)), (0, .ref b), (1, .int p1), (2, .int p2)]) hx hb dX5_grid_4 rfl hl (by decide) rfl (fun ls hl => ?_)
  refine lv_iload_n hx hb dX5_grid_5 rfl (lv_at hl 3 rfl) ?_
  refine lv_bipush (v := 9) hx hb dX5_grid_6 (by decide) ?_
  refine lv_irem hx hb dX5_grid_8 (by decide) ?_
  refine lv_istore (lv' := [(4, .int (p2 - p2 / 9 * 9)), (3, .int (p1 - p1 / 9 * 9)), (0, .ref b), (1, .int p1), (2, .int p2)]) hx hb dX5_grid_9 hl (by decide) rfl (fun ls hl => ?_)
  refine lv_iload_n hx hb dX5_grid_11 rfl (lv_at hl 1 rfl) ?_
  exact xt_callS (As := [.int (p1 - p1 / 9 * 9)]) (rest := []) ⟨hx, hb, hml, hown, xTs⟩ (t_needSize h _ hc) ⟨xB (n := 1) (k_286 h hb0) (k_1 h hb0) (k_284 h hb0) (by decide) rfl rfl rfl (by decide) (by decide), (k_285 h hb0)⟩ (xpS hb0 hS hz (va_P.sub hP [] rfl)) rfl rfl hl.1 rfl (lv_room (Nat.le_of_ble_eq_true rfl)) dX5_grid_12 ⟨(Nat.le_of_ble_eq_true rfl), (Nat.le_of_ble_eq_true rfl)⟩ (fun q ce H1 h1 h2 h3 h4 h5 => xt_out hout hlocks h1 h2 h3 (Nat.le_of_ble_eq_true rfl) (Nat.le_of_ble_eq_true rfl))
set_option maxHeartbeats 4000000 in
set_option maxRecDepth 100000 in
theorem t_grid_2 {l : Launch} {s0 : State} {a0 : Array Value} {dC : Nat → ClassId} {dI : Nat → Nat → Nat} {cA : Nat → ClassId} (h : xC l s0 a0 dC dI cA) (b gr br : Nat) (wr ca : Int32) (ro gc : Nat) (z1 z2 z3 p1 p2 : Int32) (hc : ¬ p1 - p1 / 9 * 9 < 0) (hd : p2 - p2 / 9 * 9 < 0) : xt_Met l yX5_grid [Cond.code yX5_grid cX5_grid 5 (some .int)] ({ frames := 8, cells := 1, slots := 8, locals := 140 } : Room) (xP s0 (dC, dI) [.ref b, .int p1, .int p2] [(b, .inr (5, [.ref ro, .ref gr, .ref br, .int wr, .int ca]))]) "java/lang/NegativeArraySizeException" 1 8 := by
  refine xt_ofW (cc := cX5_grid) (maxL := 5) (ret := (some .int)) (by decide) rfl ?_
  intro p e s m args below meth c s₁ B hml hout hv
  obtain ⟨rfl, hb0, hP⟩ := hv
  have hx := B.exec
  have hb := B.bytes
  have hr := B.returns
  have hown : s.vm.findClass RX5 = some m.cls := findClass_of_methodNamed B.named
  have hlocks := B.notSynchronized
  have hK := h.K hb0
  have hS : va_S (fun _ : Nat => False) s.heap s.heap [] := va_S.rf
  have hz : ∀ q : Nat, (fun _ : Nat => False) q → s0.heap.size ≤ q := fun _ z => z.elim
  have hl := lv_entry ([.ref b, .int p1, .int p2]) (n := 5) (Nat.le_of_ble_eq_true rfl)
  rw [lg_entry_eq]
  generalize (lg_sl ([.ref b, .int p1, .int p2]) ++ List.replicate (5 - (lg_sl ([.ref b, .int p1, .int p2])).length) Slot.unset).toArray = ls at hl ⊢
  have hl : lv_has ls 5 [(0, .ref b), (1, .int p1), (2, .int p2)] := hl
  refine lv_iload_n hx hb dX5_grid_0 rfl (lv_at hl 1 rfl) ?_
  refine lv_bipush (v := 9) hx hb dX5_grid_1 (by decide) ?_
  refine lv_irem hx hb dX5_grid_3 (by decide) ?_
  refine lv_istore_n (lv' := [(3, .int (p1 - p1 / 9 * 9)), (0, .ref b), (1, .int p1), (2, .int p2)]) hx hb dX5_grid_4 rfl hl (by decide) rfl (fun ls hl => ?_)
  refine lv_iload_n hx hb dX5_grid_5 rfl (lv_at hl 3 rfl) ?_
  refine lv_bipush (v := 9) hx hb dX5_grid_6 (by decide) ?_
  refine lv_irem hx hb dX5_grid_8 (by decide) ?_
  refine lv_istore (lv' := [(4, .int (p2 - p2 / 9 * 9)), (3, .int (p1 - p1 / 9 * 9)), (0, .ref b), (1, .int p1), (2, .int p2)]) hx hb dX5_grid_9 hl (by decide) rfl (fun ls hl => ?_)
  refine lv_iload_n hx hb dX5_grid_11 rfl (lv_at hl 1 rfl) ?_
  refine xr_0 (va_runS (As := [.int (p1 - p1 / 9 * 9)]) (rest := []) ⟨hx, hb, hml, hown, xTs⟩ (c_needSize h _ hc) ⟨xB (n := 1) (k_286 h hb0) (k_1 h hb0) (k_284 h hb0) (by decide) rfl rfl rfl (by decide) (by decide), (k_285 h hb0)⟩ (xpS hb0 hS hz (va_P.sub hP [] rfl)) rfl rfl hl.1 rfl (lv_room (Nat.le_of_ble_eq_true rfl)) dX5_grid_12 ⟨(Nat.le_of_ble_eq_true rfl), (Nat.le_of_ble_eq_true rfl)⟩) ?_
  refine lv_iload hx hb dX5_grid_15 (lv_at hl 0 rfl) ?_
  exact xt_callS (As := [.int (p2 - p2 / 9 * 9)]) (rest := []) ⟨hx, hb, hml, hown, xTs⟩ (t_needSize h _ hd) ⟨xB (n := 1) (k_286 h hb0) (k_1 h hb0) (k_284 h hb0) (by decide) rfl rfl rfl (by decide) (by decide), (k_285 h hb0)⟩ (xpS hb0 hS hz (va_P.sub hP [] rfl)) rfl rfl hl.1 rfl (lv_room (Nat.le_of_ble_eq_true rfl)) dX5_grid_17 ⟨(Nat.le_of_ble_eq_true rfl), (Nat.le_of_ble_eq_true rfl)⟩ (fun q ce H1 h1 h2 h3 h4 h5 => xt_out hout hlocks h1 h2 h3 (Nat.le_of_ble_eq_true rfl) (Nat.le_of_ble_eq_true rfl))
set_option maxHeartbeats 4000000 in
set_option maxRecDepth 100000 in
theorem c_cell {l : Launch} {s0 : State} {a0 : Array Value} {dC : Nat → ClassId} {dI : Nat → Nat → Nat} {cA : Nat → ClassId} (h : xC l s0 a0 dC dI cA) (b gr br : Nat) (wr ca : Int32) (ro gc : Nat) (z1 z2 z3 p2 : Int32) (ga : Nat → Nat) (gf : Nat → Int32) (I : Nat) (hm : z1 = 0 ∨ z1 = 1) (ht : ¬ z1 = 0) (hI : I < 8) (h1 : nI I < z2) (h2 : ¬ p2 < 0) (h3 : p2 < z3) (hi : vp_in p2 8) : Met l yX5_cell [Cond.code yX5_cell cX5_cell 3 (some .int)] ({ frames := 1, cells := 0, slots := 0, locals := 40 } : Room) (xP s0 (dC, dI) [.ref b, .int (nI I), .int p2] [(b, .inr (5, [.ref ro, .ref gr, .ref br, .int wr, .int ca])), (gr, .inr (3, [.ref gc, .int z1, .int z2, .int z3])), (gc, .inl (cA 9, 8, .inr (.inr (.inr (.inr (fun i => some (ga i))))))), (ga I, .inl (cA 0, 8, .inl gf))]) (xR (some (.int (gf p2.toNatClampNeg)))) 0 0 (fun _ => False) := by
  refine Met.ofW (cc := cX5_cell) (maxL := 3) (ret := (some .int)) (by decide) rfl ?_
  intro p e s m args below meth c s₁ B hml hv
  obtain ⟨rfl, hb0, hP⟩ := hv
  have hx := B.exec
  have hb := B.bytes
  have hr := B.returns
  have hown : s.vm.findClass RX5 = some m.cls := findClass_of_methodNamed B.named
  have hlocks := B.notSynchronized
  have hK := h.K hb0
  have hS : va_S (fun _ : Nat => False) s.heap s.heap [] := va_S.rf
  have hz : ∀ q : Nat, (fun _ : Nat => False) q → s0.heap.size ≤ q := fun _ z => z.elim
  have hl := lv_entry ([.ref b, .int (nI I), .int p2]) (n := 3) (Nat.le_of_ble_eq_true rfl)
  rw [lg_entry_eq]
  generalize (lg_sl ([.ref b, .int (nI I), .int p2]) ++ List.replicate (3 - (lg_sl ([.ref b, .int (nI I), .int p2])).length) Slot.unset).toArray = ls at hl ⊢
  have hl : lv_has ls 3 [(0, .ref b), (1, .int (nI I)), (2, .int p2)] := hl
  refine lv_aload_n hx hb dX5_cell_0 rfl (lv_at hl 0 rfl) ?_
  refine va_get (D := (dC, dI)) (ci := 5) (v := .ref gr) (C := RX5) (T := TX5) (N := 5) hx hb (ly_5 h hb0) (fun _ z => z) hown hK hP 0 rfl rfl 1 (by decide) (k_111 h hb0) (fun _ z => z) rfl dX5_cell_1 ?_
  refine xr_1 (va_runV (As := []) (rest := []) ⟨hx, hb, hml, hown, xTs⟩ (c_gisMade h gr gc z1 z2 z3 hm) ⟨xB (n := 0) (k_329 h hb0) (k_3 h hb0) (k_326 h hb0) (by decide) rfl rfl rfl (by decide) (by decide), (k_327 h hb0), (k_328 h hb0)⟩ (xpV hb0 hS hz (va_P.sub hP [1] rfl) (va_recv hK hP (ci := 3) (q0 := 1) rfl rfl)) rfl rfl hl.1 rfl (lv_room (Nat.le_of_ble_eq_true rfl)) dX5_cell_4 ⟨(Nat.le_of_ble_eq_true rfl), (Nat.le_of_ble_eq_true rfl)⟩) ?_
  refine xr_0 (va_runS (As := [.int z1]) (rest := []) ⟨hx, hb, hml, hown, xTs⟩ (c_needThere h _ ht) ⟨xB (n := 1) (k_140 h hb0) (k_1 h hb0) (k_138 h hb0) (by decide) rfl rfl rfl (by decide) (by decide), (k_139 h hb0)⟩ (xpS hb0 hS hz (va_P.sub hP [] rfl)) rfl rfl hl.1 rfl (lv_room (Nat.le_of_ble_eq_true rfl)) dX5_cell_7 ⟨(Nat.le_of_ble_eq_true rfl), (Nat.le_of_ble_eq_true rfl)⟩) ?_
  refine lv_iload_n hx hb dX5_cell_10 rfl (lv_at hl 1 rfl) ?_
  refine lv_aload_n hx hb dX5_cell_11 rfl (lv_at hl 0 rfl) ?_
  refine va_get (D := (dC, dI)) (ci := 5) (v := .ref gr) (C := RX5) (T := TX5) (N := 5) hx hb (ly_5 h hb0) (fun _ z => z) hown hK hP 0 rfl rfl 1 (by decide) (k_111 h hb0) (fun _ z => z) rfl dX5_cell_12 ?_
  refine xr_1 (va_runV (As := []) (rest := [.int (nI I)]) ⟨hx, hb, hml, hown, xTs⟩ (c_growCount h gr gc z1 z2 z3) ⟨xB (n := 0) (k_333 h hb0) (k_3 h hb0) (k_330 h hb0) (by decide) rfl rfl rfl (by decide) (by decide), (k_331 h hb0), (k_332 h hb0)⟩ (xpV hb0 hS hz (va_P.sub hP [1] rfl) (va_recv hK hP (ci := 3) (q0 := 1) rfl rfl)) rfl rfl hl.1 rfl (lv_room (Nat.le_of_ble_eq_true rfl)) dX5_cell_15 ⟨(Nat.le_of_ble_eq_true rfl), (Nat.le_of_ble_eq_true rfl)⟩) ?_
  refine xr_0 (va_runS (As := [.int (nI I), .int z2]) (rest := []) ⟨hx, hb, hml, hown, xTs⟩ (c_needPlace h _ _ (nI_pos (by omega)) h1) ⟨xB (n := 2) (k_232 h hb0) (k_1 h hb0) (k_230 h hb0) (by decide) rfl rfl rfl (by decide) (by decide), (k_231 h hb0)⟩ (xpS hb0 hS hz (va_P.sub hP [] rfl)) rfl rfl hl.1 rfl (lv_room (Nat.le_of_ble_eq_true rfl)) dX5_cell_18 ⟨(Nat.le_of_ble_eq_true rfl), (Nat.le_of_ble_eq_true rfl)⟩) ?_
  refine lv_iload_n hx hb dX5_cell_21 rfl (lv_at hl 2 rfl) ?_
  refine lv_aload_n hx hb dX5_cell_22 rfl (lv_at hl 0 rfl) ?_
  refine va_get (D := (dC, dI)) (ci := 5) (v := .ref gr) (C := RX5) (T := TX5) (N := 5) hx hb (ly_5 h hb0) (fun _ z => z) hown hK hP 0 rfl rfl 1 (by decide) (k_111 h hb0) (fun _ z => z) rfl dX5_cell_23 ?_
  refine xr_1 (va_runV (As := []) (rest := [.int p2]) ⟨hx, hb, hml, hown, xTs⟩ (c_gcolumnCount h gr gc z1 z2 z3) ⟨xB (n := 0) (k_337 h hb0) (k_3 h hb0) (k_334 h hb0) (by decide) rfl rfl rfl (by decide) (by decide), (k_335 h hb0), (k_336 h hb0)⟩ (xpV hb0 hS hz (va_P.sub hP [1] rfl) (va_recv hK hP (ci := 3) (q0 := 1) rfl rfl)) rfl rfl hl.1 rfl (lv_room (Nat.le_of_ble_eq_true rfl)) dX5_cell_26 ⟨(Nat.le_of_ble_eq_true rfl), (Nat.le_of_ble_eq_true rfl)⟩) ?_
  refine xr_0 (va_runS (As := [.int p2, .int z3]) (rest := []) ⟨hx, hb, hml, hown, xTs⟩ (c_needPlace h _ _ h2 h3) ⟨xB (n := 2) (k_232 h hb0) (k_1 h hb0) (k_230 h hb0) (by decide) rfl rfl rfl (by decide) (by decide), (k_231 h hb0)⟩ (xpS hb0 hS hz (va_P.sub hP [] rfl)) rfl rfl hl.1 rfl (lv_room (Nat.le_of_ble_eq_true rfl)) dX5_cell_29 ⟨(Nat.le_of_ble_eq_true rfl), (Nat.le_of_ble_eq_true rfl)⟩) ?_
  refine lv_aload_n hx hb dX5_cell_32 rfl (lv_at hl 0 rfl) ?_
  refine va_get (D := (dC, dI)) (ci := 5) (v := .ref gr) (C := RX5) (T := TX5) (N := 5) hx hb (ly_5 h hb0) (fun _ z => z) hown hK hP 0 rfl rfl 1 (by decide) (k_111 h hb0) (fun _ z => z) rfl dX5_cell_33 ?_
  refine lv_iload_n hx hb dX5_cell_36 rfl (lv_at hl 1 rfl) ?_
  refine lv_iload_n hx hb dX5_cell_37 rfl (lv_at hl 2 rfl) ?_
  refine xr_1 (va_runV (As := [.int (nI I), .int p2]) (rest := []) ⟨hx, hb, hml, hown, xTs⟩ (c_gnumberAt h gr gc z1 z2 z3 ga gf I p2 hI hi) ⟨xB (n := 2) (k_341 h hb0) (k_3 h hb0) (k_338 h hb0) (by decide) rfl rfl rfl (by decide) (by decide), (k_339 h hb0), (k_340 h hb0)⟩ (xpV hb0 hS hz (va_P.sub hP [1, 2, 3] rfl) (va_recv hK hP (ci := 3) (q0 := 1) rfl rfl)) rfl rfl hl.1 rfl (lv_room (Nat.le_of_ble_eq_true rfl)) dX5_cell_38 ⟨(Nat.le_of_ble_eq_true rfl), (Nat.le_of_ble_eq_true rfl)⟩) ?_
  exact W.iret hx hb hr (fun t ht _ => ⟨rfl, ht⟩) (fun q z => nomatch z) dX5_cell_41
set_option maxHeartbeats 4000000 in
set_option maxRecDepth 100000 in
theorem t_cell_N {l : Launch} {s0 : State} {a0 : Array Value} {dC : Nat → ClassId} {dI : Nat → Nat → Nat} {cA : Nat → ClassId} (h : xC l s0 a0 dC dI cA) (b gr br : Nat) (wr ca : Int32) (ro gc : Nat) (z1 z2 z3 p1 p2 : Int32) (hm : z1 = 0 ∨ z1 = 1) (ht : z1 = 0) : xt_Met l yX5_cell [Cond.code yX5_cell cX5_cell 3 (some .int)] ({ frames := 8, cells := 1, slots := 8, locals := 140 } : Room) (xP s0 (dC, dI) [.ref b, .int p1, .int p2] [(b, .inr (5, [.ref ro, .ref gr, .ref br, .int wr, .int ca])), (gr, .inr (3, [.ref gc, .int z1, .int z2, .int z3]))]) "java/lang/NullPointerException" 1 8 := by
  refine xt_ofW (cc := cX5_cell) (maxL := 3) (ret := (some .int)) (by decide) rfl ?_
  intro p e s m args below meth c s₁ B hml hout hv
  obtain ⟨rfl, hb0, hP⟩ := hv
  have hx := B.exec
  have hb := B.bytes
  have hr := B.returns
  have hown : s.vm.findClass RX5 = some m.cls := findClass_of_methodNamed B.named
  have hlocks := B.notSynchronized
  have hK := h.K hb0
  have hS : va_S (fun _ : Nat => False) s.heap s.heap [] := va_S.rf
  have hz : ∀ q : Nat, (fun _ : Nat => False) q → s0.heap.size ≤ q := fun _ z => z.elim
  have hl := lv_entry ([.ref b, .int p1, .int p2]) (n := 3) (Nat.le_of_ble_eq_true rfl)
  rw [lg_entry_eq]
  generalize (lg_sl ([.ref b, .int p1, .int p2]) ++ List.replicate (3 - (lg_sl ([.ref b, .int p1, .int p2])).length) Slot.unset).toArray = ls at hl ⊢
  have hl : lv_has ls 3 [(0, .ref b), (1, .int p1), (2, .int p2)] := hl
  refine lv_aload_n hx hb dX5_cell_0 rfl (lv_at hl 0 rfl) ?_
  refine va_get (D := (dC, dI)) (ci := 5) (v := .ref gr) (C := RX5) (T := TX5) (N := 5) hx hb (ly_5 h hb0) (fun _ z => z) hown hK hP 0 rfl rfl 1 (by decide) (k_111 h hb0) (fun _ z => z) rfl dX5_cell_1 ?_
  refine xr_1 (va_runV (As := []) (rest := []) ⟨hx, hb, hml, hown, xTs⟩ (c_gisMade h gr gc z1 z2 z3 hm) ⟨xB (n := 0) (k_329 h hb0) (k_3 h hb0) (k_326 h hb0) (by decide) rfl rfl rfl (by decide) (by decide), (k_327 h hb0), (k_328 h hb0)⟩ (xpV hb0 hS hz (va_P.sub hP [1] rfl) (va_recv hK hP (ci := 3) (q0 := 1) rfl rfl)) rfl rfl hl.1 rfl (lv_room (Nat.le_of_ble_eq_true rfl)) dX5_cell_4 ⟨(Nat.le_of_ble_eq_true rfl), (Nat.le_of_ble_eq_true rfl)⟩) ?_
  exact xt_callS (As := [.int z1]) (rest := []) ⟨hx, hb, hml, hown, xTs⟩ (t_needThere h _ ht) ⟨xB (n := 1) (k_140 h hb0) (k_1 h hb0) (k_138 h hb0) (by decide) rfl rfl rfl (by decide) (by decide), (k_139 h hb0)⟩ (xpS hb0 hS hz (va_P.sub hP [] rfl)) rfl rfl hl.1 rfl (lv_room (Nat.le_of_ble_eq_true rfl)) dX5_cell_7 ⟨(Nat.le_of_ble_eq_true rfl), (Nat.le_of_ble_eq_true rfl)⟩ (fun q ce H1 h1 h2 h3 h4 h5 => xt_out hout hlocks h1 h2 h3 (Nat.le_of_ble_eq_true rfl) (Nat.le_of_ble_eq_true rfl))
set_option maxHeartbeats 4000000 in
set_option maxRecDepth 100000 in
theorem t_cell_1 {l : Launch} {s0 : State} {a0 : Array Value} {dC : Nat → ClassId} {dI : Nat → Nat → Nat} {cA : Nat → ClassId} (h : xC l s0 a0 dC dI cA) (b gr br : Nat) (wr ca : Int32) (ro gc : Nat) (z1 z2 z3 p1 p2 : Int32) (hm : z1 = 0 ∨ z1 = 1) (ht : ¬ z1 = 0) (hc : p1 < 0 ∨ ¬ p1 < z2) : xt_Met l yX5_cell [Cond.code yX5_cell cX5_cell 3 (some .int)] ({ frames := 8, cells := 1, slots := 8, locals := 140 } : Room) (xP s0 (dC, dI) [.ref b, .int p1, .int p2] [(b, .inr (5, [.ref ro, .ref gr, .ref br, .int wr, .int ca])), (gr, .inr (3, [.ref gc, .int z1, .int z2, .int z3]))]) "java/lang/ArrayIndexOutOfBoundsException" 1 8 := by
  refine xt_ofW (cc := cX5_cell) (maxL := 3) (ret := (some .int)) (by decide) rfl ?_
  intro p e s m args below meth c s₁ B hml hout hv
  obtain ⟨rfl, hb0, hP⟩ := hv
  have hx := B.exec
  have hb := B.bytes
  have hr := B.returns
  have hown : s.vm.findClass RX5 = some m.cls := findClass_of_methodNamed B.named
  have hlocks := B.notSynchronized
  have hK := h.K hb0
  have hS : va_S (fun _ : Nat => False) s.heap s.heap [] := va_S.rf
  have hz : ∀ q : Nat, (fun _ : Nat => False) q → s0.heap.size ≤ q := fun _ z => z.elim
  have hl := lv_entry ([.ref b, .int p1, .int p2]) (n := 3) (Nat.le_of_ble_eq_true rfl)
  rw [lg_entry_eq]
  generalize (lg_sl ([.ref b, .int p1, .int p2]) ++ List.replicate (3 - (lg_sl ([.ref b, .int p1, .int p2])).length) Slot.unset).toArray = ls at hl ⊢
  have hl : lv_has ls 3 [(0, .ref b), (1, .int p1), (2, .int p2)] := hl
  refine lv_aload_n hx hb dX5_cell_0 rfl (lv_at hl 0 rfl) ?_
  refine va_get (D := (dC, dI)) (ci := 5) (v := .ref gr) (C := RX5) (T := TX5) (N := 5) hx hb (ly_5 h hb0) (fun _ z => z) hown hK hP 0 rfl rfl 1 (by decide) (k_111 h hb0) (fun _ z => z) rfl dX5_cell_1 ?_
  refine xr_1 (va_runV (As := []) (rest := []) ⟨hx, hb, hml, hown, xTs⟩ (c_gisMade h gr gc z1 z2 z3 hm) ⟨xB (n := 0) (k_329 h hb0) (k_3 h hb0) (k_326 h hb0) (by decide) rfl rfl rfl (by decide) (by decide), (k_327 h hb0), (k_328 h hb0)⟩ (xpV hb0 hS hz (va_P.sub hP [1] rfl) (va_recv hK hP (ci := 3) (q0 := 1) rfl rfl)) rfl rfl hl.1 rfl (lv_room (Nat.le_of_ble_eq_true rfl)) dX5_cell_4 ⟨(Nat.le_of_ble_eq_true rfl), (Nat.le_of_ble_eq_true rfl)⟩) ?_
  refine xr_0 (va_runS (As := [.int z1]) (rest := []) ⟨hx, hb, hml, hown, xTs⟩ (c_needThere h _ ht) ⟨xB (n := 1) (k_140 h hb0) (k_1 h hb0) (k_138 h hb0) (by decide) rfl rfl rfl (by decide) (by decide), (k_139 h hb0)⟩ (xpS hb0 hS hz (va_P.sub hP [] rfl)) rfl rfl hl.1 rfl (lv_room (Nat.le_of_ble_eq_true rfl)) dX5_cell_7 ⟨(Nat.le_of_ble_eq_true rfl), (Nat.le_of_ble_eq_true rfl)⟩) ?_
  refine lv_iload_n hx hb dX5_cell_10 rfl (lv_at hl 1 rfl) ?_
  refine lv_aload_n hx hb dX5_cell_11 rfl (lv_at hl 0 rfl) ?_
  refine va_get (D := (dC, dI)) (ci := 5) (v := .ref gr) (C := RX5) (T := TX5) (N := 5) hx hb (ly_5 h hb0) (fun _ z => z) hown hK hP 0 rfl rfl 1 (by decide) (k_111 h hb0) (fun _ z => z) rfl dX5_cell_12 ?_
  refine xr_1 (va_runV (As := []) (rest := [.int p1]) ⟨hx, hb, hml, hown, xTs⟩ (c_growCount h gr gc z1 z2 z3) ⟨xB (n := 0) (k_333 h hb0) (k_3 h hb0) (k_330 h hb0) (by decide) rfl rfl rfl (by decide) (by decide), (k_331 h hb0), (k_332 h hb0)⟩ (xpV hb0 hS hz (va_P.sub hP [1] rfl) (va_recv hK hP (ci := 3) (q0 := 1) rfl rfl)) rfl rfl hl.1 rfl (lv_room (Nat.le_of_ble_eq_true rfl)) dX5_cell_15 ⟨(Nat.le_of_ble_eq_true rfl), (Nat.le_of_ble_eq_true rfl)⟩) ?_
  exact xt_callS (As := [.int p1, .int z2]) (rest := []) ⟨hx, hb, hml, hown, xTs⟩ (t_needPlace h _ _ hc) ⟨xB (n := 2) (k_232 h hb0) (k_1 h hb0) (k_230 h hb0) (by decide) rfl rfl rfl (by decide) (by decide), (k_231 h hb0)⟩ (xpS hb0 hS hz (va_P.sub hP [] rfl)) rfl rfl hl.1 rfl (lv_room (Nat.le_of_ble_eq_true rfl)) dX5_cell_18 ⟨(Nat.le_of_ble_eq_true rfl), (Nat.le_of_ble_eq_true rfl)⟩ (fun q ce H1 h1 h2 h3 h4 h5 => xt_out hout hlocks h1 h2 h3 (Nat.le_of_ble_eq_true rfl) (Nat.le_of_ble_eq_true rfl))
set_option maxHeartbeats 4000000 in
set_option maxRecDepth 100000 in
theorem t_cell_2 {l : Launch} {s0 : State} {a0 : Array Value} {dC : Nat → ClassId} {dI : Nat → Nat → Nat} {cA : Nat → ClassId} (h : xC l s0 a0 dC dI cA) (b gr br : Nat) (wr ca : Int32) (ro gc : Nat) (z1 z2 z3 p1 p2 : Int32) (hm : z1 = 0 ∨ z1 = 1) (ht : ¬ z1 = 0) (h0 : ¬ p1 < 0) (h1 : p1 < z2) (hc : p2 < 0 ∨ ¬ p2 < z3) : xt_Met l yX5_cell [Cond.code yX5_cell cX5_cell 3 (some .int)] ({ frames := 8, cells := 1, slots := 8, locals := 140 } : Room) (xP s0 (dC, dI) [.ref b, .int p1, .int p2] [(b, .inr (5, [.ref ro, .ref gr, .ref br, .int wr, .int ca])), (gr, .inr (3, [.ref gc, .int z1, .int z2, .int z3]))]) "java/lang/ArrayIndexOutOfBoundsException" 1 8 := by
  refine xt_ofW (cc := cX5_cell) (maxL := 3) (ret := (some .int)) (by decide) rfl ?_
  intro p e s m args below meth c s₁ B hml hout hv
  obtain ⟨rfl, hb0, hP⟩ := hv
  have hx := B.exec
  have hb := B.bytes
  have hr := B.returns
  have hown : s.vm.findClass RX5 = some m.cls := findClass_of_methodNamed B.named
  have hlocks := B.notSynchronized
  have hK := h.K hb0
  have hS : va_S (fun _ : Nat => False) s.heap s.heap [] := va_S.rf
  have hz : ∀ q : Nat, (fun _ : Nat => False) q → s0.heap.size ≤ q := fun _ z => z.elim
  have hl := lv_entry ([.ref b, .int p1, .int p2]) (n := 3) (Nat.le_of_ble_eq_true rfl)
  rw [lg_entry_eq]
  generalize (lg_sl ([.ref b, .int p1, .int p2]) ++ List.replicate (3 - (lg_sl ([.ref b, .int p1, .int p2])).length) Slot.unset).toArray = ls at hl ⊢
  have hl : lv_has ls 3 [(0, .ref b), (1, .int p1), (2, .int p2)] := hl
  refine lv_aload_n hx hb dX5_cell_0 rfl (lv_at hl 0 rfl) ?_
  refine va_get (D := (dC, dI)) (ci := 5) (v := .ref gr) (C := RX5) (T := TX5) (N := 5) hx hb (ly_5 h hb0) (fun _ z => z) hown hK hP 0 rfl rfl 1 (by decide) (k_111 h hb0) (fun _ z => z) rfl dX5_cell_1 ?_
  refine xr_1 (va_runV (As := []) (rest := []) ⟨hx, hb, hml, hown, xTs⟩ (c_gisMade h gr gc z1 z2 z3 hm) ⟨xB (n := 0) (k_329 h hb0) (k_3 h hb0) (k_326 h hb0) (by decide) rfl rfl rfl (by decide) (by decide), (k_327 h hb0), (k_328 h hb0)⟩ (xpV hb0 hS hz (va_P.sub hP [1] rfl) (va_recv hK hP (ci := 3) (q0 := 1) rfl rfl)) rfl rfl hl.1 rfl (lv_room (Nat.le_of_ble_eq_true rfl)) dX5_cell_4 ⟨(Nat.le_of_ble_eq_true rfl), (Nat.le_of_ble_eq_true rfl)⟩) ?_
  refine xr_0 (va_runS (As := [.int z1]) (rest := []) ⟨hx, hb, hml, hown, xTs⟩ (c_needThere h _ ht) ⟨xB (n := 1) (k_140 h hb0) (k_1 h hb0) (k_138 h hb0) (by decide) rfl rfl rfl (by decide) (by decide), (k_139 h hb0)⟩ (xpS hb0 hS hz (va_P.sub hP [] rfl)) rfl rfl hl.1 rfl (lv_room (Nat.le_of_ble_eq_true rfl)) dX5_cell_7 ⟨(Nat.le_of_ble_eq_true rfl), (Nat.le_of_ble_eq_true rfl)⟩) ?_
  refine lv_iload_n hx hb dX5_cell_10 rfl (lv_at hl 1 rfl) ?_
  refine lv_aload_n hx hb dX5_cell_11 rfl (lv_at hl 0 rfl) ?_
  refine va_get (D := (dC, dI)) (ci := 5) (v := .ref gr) (C := RX5) (T := TX5) (N := 5) hx hb (ly_5 h hb0) (fun _ z => z) hown hK hP 0 rfl rfl 1 (by decide) (k_111 h hb0) (fun _ z => z) rfl dX5_cell_12 ?_
  refine xr_1 (va_runV (As := []) (rest := [.int p1]) ⟨hx, hb, hml, hown, xTs⟩ (c_growCount h gr gc z1 z2 z3) ⟨xB (n := 0) (k_333 h hb0) (k_3 h hb0) (k_330 h hb0) (by decide) rfl rfl rfl (by decide) (by decide), (k_331 h hb0), (k_332 h hb0)⟩ (xpV hb0 hS hz (va_P.sub hP [1] rfl) (va_recv hK hP (ci := 3) (q0 := 1) rfl rfl)) rfl rfl hl.1 rfl (lv_room (Nat.le_of_ble_eq_true rfl)) dX5_cell_15 ⟨(Nat.le_of_ble_eq_true rfl), (Nat.le_of_ble_eq_true rfl)⟩) ?_
  refine xr_0 (va_runS (As := [.int p1, .int z2]) (rest := []) ⟨hx, hb, hml, hown, xTs⟩ (c_needPlace h _ _ h0 h1) ⟨xB (n := 2) (k_232 h hb0) (k_1 h hb0) (k_230 h hb0) (by decide) rfl rfl rfl (by decide) (by decide), (k_231 h hb0)⟩ (xpS hb0 hS hz (va_P.sub hP [] rfl)) rfl rfl hl.1 rfl (lv_room (Nat.le_of_ble_eq_true rfl)) dX5_cell_18 ⟨(Nat.le_of_ble_eq_true rfl), (Nat.le_of_ble_eq_true rfl)⟩) ?_
  refine lv_iload_n hx hb dX5_cell_21 rfl (lv_at hl 2 rfl) ?_
  refine lv_aload_n hx hb dX5_cell_22 rfl (lv_at hl 0 rfl) ?_
  refine va_get (D := (dC, dI)) (ci := 5) (v := .ref gr) (C := RX5) (T := TX5) (N := 5) hx hb (ly_5 h hb0) (fun _ z => z) hown hK hP 0 rfl rfl 1 (by decide) (k_111 h hb0) (fun _ z => z) rfl dX5_cell_23 ?_
  refine xr_1 (va_runV (As := []) (rest := [.int p2]) ⟨hx, hb, hml, hown, xTs⟩ (c_gcolumnCount h gr gc z1 z2 z3) ⟨xB (n := 0) (k_337 h hb0) (k_3 h hb0) (k_334 h hb0) (by decide) rfl rfl rfl (by decide) (by decide), (k_335 h hb0), (k_336 h hb0)⟩ (xpV hb0 hS hz (va_P.sub hP [1] rfl) (va_recv hK hP (ci := 3) (q0 := 1) rfl rfl)) rfl rfl hl.1 rfl (lv_room (Nat.le_of_ble_eq_true rfl)) dX5_cell_26 ⟨(Nat.le_of_ble_eq_true rfl), (Nat.le_of_ble_eq_true rfl)⟩) ?_
  exact xt_callS (As := [.int p2, .int z3]) (rest := []) ⟨hx, hb, hml, hown, xTs⟩ (t_needPlace h _ _ hc) ⟨xB (n := 2) (k_232 h hb0) (k_1 h hb0) (k_230 h hb0) (by decide) rfl rfl rfl (by decide) (by decide), (k_231 h hb0)⟩ (xpS hb0 hS hz (va_P.sub hP [] rfl)) rfl rfl hl.1 rfl (lv_room (Nat.le_of_ble_eq_true rfl)) dX5_cell_29 ⟨(Nat.le_of_ble_eq_true rfl), (Nat.le_of_ble_eq_true rfl)⟩ (fun q ce H1 h1 h2 h3 h4 h5 => xt_out hout hlocks h1 h2 h3 (Nat.le_of_ble_eq_true rfl) (Nat.le_of_ble_eq_true rfl))
set_option maxHeartbeats 4000000 in
set_option maxRecDepth 100000 in
theorem c_boxes {l : Launch} {s0 : State} {a0 : Array Value} {dC : Nat → ClassId} {dI : Nat → Nat → Nat} {cA : Nat → ClassId} (h : xC l s0 a0 dC dI cA) (b gr br : Nat) (wr ca : Int32) (ro pl : Nat) (z1 z2 z3 p1 p2 : Int32) (f : Nat → Option Nat) (N : Nat) (sz : Nat) (hN : p1 - p1 / 20 * 20 = nI N) (hN4 : N < 20) (h01 : p2 = 0 ∨ p2 = 1) : Met l yX5_boxes [Cond.code yX5_boxes cX5_boxes 4 (some .int)] ({ frames := 1, cells := 0, slots := 0, locals := 40 } : Room) (xPM s0 (dC, dI) [.ref b, .int p1, .int p2] [(b, .inr (5, [.ref ro, .ref gr, .ref br, .int wr, .int ca]))] [(br, .inr (1, [.ref pl, .int z1, .int z2, .int z3])), (pl, .inl (cA 8, 19, .inr (.inr (.inr (.inr f)))))] sz) (xQM (dC, dI) (va_A [(br, .inr (1, [.ref pl, .int z1, .int z2, .int z3])), (pl, .inl (cA 8, 19, .inr (.inr (.inr (.inr f)))))] sz) (fun r w1 => r = some (.int (nI N)) ∧ w1 = [(br, .inr (1, [.ref pl, .int 1, .int p2, .int (nI N)])), (pl, .inl (cA 8, 19, .inr (.inr (.inr (.inr (pz f N))))))])) 0 0 (va_A [(br, .inr (1, [.ref pl, .int z1, .int z2, .int z3])), (pl, .inl (cA 8, 19, .inr (.inr (.inr (.inr f)))))] sz) := by
  refine Met.ofW (cc := cX5_boxes) (maxL := 4) (ret := (some .int)) (by decide) rfl ?_
  intro p e s m args below meth c s₁ B hml hv
  obtain ⟨rfl, rfl, hb0, hPr, hP, hD0⟩ := hv
  have hx := B.exec
  have hb := B.bytes
  have hr := B.returns
  have hown : s.vm.findClass RX5 = some m.cls := findClass_of_methodNamed B.named
  have hlocks := B.notSynchronized
  have hK := h.K hb0
  have hS : va_S (va_A [(br, .inr (1, [.ref pl, .int z1, .int z2, .int z3])), (pl, .inl (cA 8, 19, .inr (.inr (.inr (.inr f)))))] s.heap.size) s.heap s.heap [] := va_S.rf
  obtain ⟨A, hAe, hD, hA, hz, hRo, hwk, hnR⟩ := xM_start hb0 hPr hP hD0
  rw [hAe] at hS ⊢
  have hl := lv_entry ([.ref b, .int p1, .int p2]) (n := 4) (Nat.le_of_ble_eq_true rfl)
  rw [lg_entry_eq]
  generalize (lg_sl ([.ref b, .int p1, .int p2]) ++ List.replicate (4 - (lg_sl ([.ref b, .int p1, .int p2])).length) Slot.unset).toArray = ls at hl ⊢
  have hl : lv_has ls 4 [(0, .ref b), (1, .int p1), (2, .int p2)] := hl
  refine lv_iload_n hx hb dX5_boxes_0 rfl (lv_at hl 1 rfl) ?_
  refine lv_bipush (v := 20) hx hb dX5_boxes_1 (by decide) ?_
  refine lv_irem hx hb dX5_boxes_3 (by decide) ?_
  rw [hN]
  refine lv_istore_n (lv' := [(3, .int (nI N)), (0, .ref b), (1, .int p1), (2, .int p2)]) hx hb dX5_boxes_4 rfl hl (by decide) rfl (fun ls hl => ?_)
  refine lv_iload_n hx hb dX5_boxes_5 rfl (lv_at hl 0 rfl) ?_
  refine xr_0 (va_runS (As := [.int (nI N)]) (rest := []) ⟨hx, hb, hml, hown, xTs⟩ (c_needSize h _ (nI_pos (by omega))) ⟨xB (n := 1) (k_286 h hb0) (k_1 h hb0) (k_284 h hb0) (by decide) rfl rfl rfl (by decide) (by decide), (k_285 h hb0)⟩ (xpS hb0 hS hz (va_P.sub (hRo _ _ hS) [] rfl)) rfl rfl hl.1 rfl (lv_room (Nat.le_of_ble_eq_true rfl)) dX5_boxes_6 ⟨(Nat.le_of_ble_eq_true rfl), (Nat.le_of_ble_eq_true rfl)⟩) ?_
  refine lv_aload_n hx hb dX5_boxes_9 rfl (lv_at hl 1 rfl) ?_
  refine va_get (D := (dC, dI)) (ci := 5) (v := .ref br) (C := RX5) (T := TX5) (N := 5) hx hb (ly_5 h hb0) (fun _ z => z) hown hK (hRo _ _ hS) 0 rfl rfl 2 (by decide) (k_112 h hb0) (fun _ z => z) rfl dX5_boxes_10 ?_
  refine lv_iload_n hx hb dX5_boxes_13 rfl (lv_at hl 0 rfl) ?_
  refine lv_iload_n hx hb dX5_boxes_14 rfl (lv_at hl 3 rfl) ?_
  refine xm_of (wc := [(br, .inr (1, [.ref pl, .int z1, .int z2, .int z3])), (pl, .inl (cA 8, 19, .inr (.inr (.inr (.inr f)))))]) (wo := []) (va_runV (As := [.int (nI N), .int p2]) (rest := []) ⟨hx, hb, hml, hown, xTs⟩ (c_brenew h br pl z1 z2 z3 p2 f N _ hN4 h01) ⟨xB (n := 2) (k_352 h hb0) (k_4 h hb0) (k_349 h hb0) (by decide) rfl rfl rfl (by decide) (by decide), (k_350 h hb0), (k_351 h hb0)⟩ (xpMV (wr := []) (wc := [(br, .inr (1, [.ref pl, .int z1, .int z2, .int z3])), (pl, .inl (cA 8, 19, .inr (.inr (.inr (.inr f)))))]) hb0 hS hz (va_P.sub hP [] rfl) (va_P.sub hP [0, 1] rfl) (va_D.sub (xDD (xDl hD0) hD hz hnR) [1, 2] rfl rfl) (va_recv hK hP (ci := 1) (q0 := 0) rfl rfl)) rfl rfl hl.1 rfl (lv_room (Nat.le_of_ble_eq_true rfl)) dX5_boxes_15 ⟨(Nat.le_of_ble_eq_true rfl), (Nat.le_of_ble_eq_true rfl)⟩) hP hD hS hA [0, 1] [] rfl rfl rfl (by decide) (fun r w1 H locs hΦ hP hD hS => ?_)
  obtain ⟨rfl, rfl⟩ := hΦ
  have hP : va_P (dC, dI) vwCl [(br, .inr (1, [.ref pl, .int 1, .int p2, .int (nI N)])), (pl, .inl (cA 8, 19, .inr (.inr (.inr (.inr (pz f N))))))] H := hP
  have hD : va_D A [(br, .inr (1, [.ref pl, .int 1, .int p2, .int (nI N)])), (pl, .inl (cA 8, 19, .inr (.inr (.inr (.inr (pz f N))))))] := hD
  refine lv_iload_n hx hb dX5_boxes_18 rfl (lv_at hl 0 rfl) ?_
  exact W.iret hx hb hr (fun t ht _ => ⟨(some (.int (nI N))), _, rfl, ⟨rfl, rfl⟩, by rw [ht]; exact hP, hD, hS.F ht⟩) (fun q z => hS.2.2 q z) dX5_boxes_19
set_option maxHeartbeats 4000000 in
set_option maxRecDepth 100000 in
theorem t_boxes_S {l : Launch} {s0 : State} {a0 : Array Value} {dC : Nat → ClassId} {dI : Nat → Nat → Nat} {cA : Nat → ClassId} (h : xC l s0 a0 dC dI cA) (b gr br : Nat) (wr ca : Int32) (ro pl : Nat) (z1 z2 z3 p1 p2 : Int32) (hc : p1 - p1 / 20 * 20 < 0) : xt_Met l yX5_boxes [Cond.code yX5_boxes cX5_boxes 4 (some .int)] ({ frames := 8, cells := 1, slots := 8, locals := 140 } : Room) (xP s0 (dC, dI) [.ref b, .int p1, .int p2] [(b, .inr (5, [.ref ro, .ref gr, .ref br, .int wr, .int ca]))]) "java/lang/NegativeArraySizeException" 1 8 := by
  refine xt_ofW (cc := cX5_boxes) (maxL := 4) (ret := (some .int)) (by decide) rfl ?_
  intro p e s m args below meth c s₁ B hml hout hv
  obtain ⟨rfl, hb0, hP⟩ := hv
  have hx := B.exec
  have hb := B.bytes
  have hr := B.returns
  have hown : s.vm.findClass RX5 = some m.cls := findClass_of_methodNamed B.named
  have hlocks := B.notSynchronized
  have hK := h.K hb0
  have hS : va_S (fun _ : Nat => False) s.heap s.heap [] := va_S.rf
  have hz : ∀ q : Nat, (fun _ : Nat => False) q → s0.heap.size ≤ q := fun _ z => z.elim
  have hl := lv_entry ([.ref b, .int p1, .int p2]) (n := 4) (Nat.le_of_ble_eq_true rfl)
  rw [lg_entry_eq]
  generalize (lg_sl ([.ref b, .int p1, .int p2]) ++ List.replicate (4 - (lg_sl ([.ref b, .int p1, .int p2])).length) Slot.unset).toArray = ls at hl ⊢
  have hl : lv_has ls 4 [(0, .ref b), (1, .int p1), (2, .int p2)] := hl
  refine lv_iload_n hx hb dX5_boxes_0 rfl (lv_at hl 1 rfl) ?_
  refine lv_bipush (v := 20) hx hb dX5_boxes_1 (by decide) ?_
  refine lv_irem hx hb dX5_boxes_3 (by decide) ?_
  refine lv_istore_n (lv' := [(3, .int (p1 - p1 / 20 * 20)), (0, .ref b), (1, .int p1), (2, .int p2)]) hx hb dX5_boxes_4 rfl hl (by decide) rfl (fun ls hl => ?_)
  refine lv_iload_n hx hb dX5_boxes_5 rfl (lv_at hl 0 rfl) ?_
  exact xt_callS (As := [.int (p1 - p1 / 20 * 20)]) (rest := []) ⟨hx, hb, hml, hown, xTs⟩ (t_needSize h _ hc) ⟨xB (n := 1) (k_286 h hb0) (k_1 h hb0) (k_284 h hb0) (by decide) rfl rfl rfl (by decide) (by decide), (k_285 h hb0)⟩ (xpS hb0 hS hz (va_P.sub hP [] rfl)) rfl rfl hl.1 rfl (lv_room (Nat.le_of_ble_eq_true rfl)) dX5_boxes_6 ⟨(Nat.le_of_ble_eq_true rfl), (Nat.le_of_ble_eq_true rfl)⟩ (fun q ce H1 h1 h2 h3 h4 h5 => xt_out hout hlocks h1 h2 h3 (Nat.le_of_ble_eq_true rfl) (Nat.le_of_ble_eq_true rfl))
set_option maxHeartbeats 4000000 in
set_option maxRecDepth 100000 in
theorem c_boxAt {l : Launch} {s0 : State} {a0 : Array Value} {dC : Nat → ClassId} {dI : Nat → Nat → Nat} {cA : Nat → ClassId} (h : xC l s0 a0 dC dI cA) (b gr br : Nat) (wr ca : Int32) (ro pl : Nat) (z1 z2 z3 p1 : Int32) (f : Nat → Option Nat) (a : Nat) (hm : z1 = 0 ∨ z1 = 1) (ht : ¬ z1 = 0) (h0 : ¬ p1 < 0) (h1 : p1 < z3) (hi : vp_in p1 19) (hf : f p1.toNatClampNeg = some a) : Met l yX5_boxAt [Cond.code yX5_boxAt cX5_boxAt 3 (some (.object "FaultBench$Box"))] ({ frames := 1, cells := 0, slots := 0, locals := 40 } : Room) (xP s0 (dC, dI) [.ref b, .int p1] [(b, .inr (5, [.ref ro, .ref gr, .ref br, .int wr, .int ca])), (br, .inr (1, [.ref pl, .int z1, .int z2, .int z3])), (pl, .inl (cA 8, 19, .inr (.inr (.inr (.inr f)))))]) (xR (some (.ref a))) 0 0 (fun _ => False) := by
  refine Met.ofW (cc := cX5_boxAt) (maxL := 3) (ret := (some (.object "FaultBench$Box"))) (by decide) rfl ?_
  intro p e s m args below meth c s₁ B hml hv
  obtain ⟨rfl, hb0, hP⟩ := hv
  have hx := B.exec
  have hb := B.bytes
  have hr := B.returns
  have hown : s.vm.findClass RX5 = some m.cls := findClass_of_methodNamed B.named
  have hlocks := B.notSynchronized
  have hK := h.K hb0
  have hS : va_S (fun _ : Nat => False) s.heap s.heap [] := va_S.rf
  have hz : ∀ q : Nat, (fun _ : Nat => False) q → s0.heap.size ≤ q := fun _ z => z.elim
  have hl := lv_entry ([.ref b, .int p1]) (n := 3) (Nat.le_of_ble_eq_true rfl)
  rw [lg_entry_eq]
  generalize (lg_sl ([.ref b, .int p1]) ++ List.replicate (3 - (lg_sl ([.ref b, .int p1])).length) Slot.unset).toArray = ls at hl ⊢
  have hl : lv_has ls 3 [(0, .ref b), (1, .int p1)] := hl
  refine lv_aload_n hx hb dX5_boxAt_0 rfl (lv_at hl 0 rfl) ?_
  refine va_get (D := (dC, dI)) (ci := 5) (v := .ref br) (C := RX5) (T := TX5) (N := 5) hx hb (ly_5 h hb0) (fun _ z => z) hown hK hP 0 rfl rfl 2 (by decide) (k_112 h hb0) (fun _ z => z) rfl dX5_boxAt_1 ?_
  refine xr_1 (va_runV (As := []) (rest := []) ⟨hx, hb, hml, hown, xTs⟩ (c_bisMade h br pl z1 z2 z3 hm) ⟨xB (n := 0) (k_364 h hb0) (k_4 h hb0) (k_361 h hb0) (by decide) rfl rfl rfl (by decide) (by decide), (k_362 h hb0), (k_363 h hb0)⟩ (xpV hb0 hS hz (va_P.sub hP [1] rfl) (va_recv hK hP (ci := 1) (q0 := 1) rfl rfl)) rfl rfl hl.1 rfl (lv_room (Nat.le_of_ble_eq_true rfl)) dX5_boxAt_4 ⟨(Nat.le_of_ble_eq_true rfl), (Nat.le_of_ble_eq_true rfl)⟩) ?_
  refine xr_0 (va_runS (As := [.int z1]) (rest := []) ⟨hx, hb, hml, hown, xTs⟩ (c_needThere h _ ht) ⟨xB (n := 1) (k_140 h hb0) (k_1 h hb0) (k_138 h hb0) (by decide) rfl rfl rfl (by decide) (by decide), (k_139 h hb0)⟩ (xpS hb0 hS hz (va_P.sub hP [] rfl)) rfl rfl hl.1 rfl (lv_room (Nat.le_of_ble_eq_true rfl)) dX5_boxAt_7 ⟨(Nat.le_of_ble_eq_true rfl), (Nat.le_of_ble_eq_true rfl)⟩) ?_
  refine lv_iload_n hx hb dX5_boxAt_10 rfl (lv_at hl 1 rfl) ?_
  refine lv_aload_n hx hb dX5_boxAt_11 rfl (lv_at hl 0 rfl) ?_
  refine va_get (D := (dC, dI)) (ci := 5) (v := .ref br) (C := RX5) (T := TX5) (N := 5) hx hb (ly_5 h hb0) (fun _ z => z) hown hK hP 0 rfl rfl 2 (by decide) (k_112 h hb0) (fun _ z => z) rfl dX5_boxAt_12 ?_
  refine xr_1 (va_runV (As := []) (rest := [.int p1]) ⟨hx, hb, hml, hown, xTs⟩ (c_bplaceCount h br pl z1 z2 z3) ⟨xB (n := 0) (k_368 h hb0) (k_4 h hb0) (k_365 h hb0) (by decide) rfl rfl rfl (by decide) (by decide), (k_366 h hb0), (k_367 h hb0)⟩ (xpV hb0 hS hz (va_P.sub hP [1] rfl) (va_recv hK hP (ci := 1) (q0 := 1) rfl rfl)) rfl rfl hl.1 rfl (lv_room (Nat.le_of_ble_eq_true rfl)) dX5_boxAt_15 ⟨(Nat.le_of_ble_eq_true rfl), (Nat.le_of_ble_eq_true rfl)⟩) ?_
  refine xr_0 (va_runS (As := [.int p1, .int z3]) (rest := []) ⟨hx, hb, hml, hown, xTs⟩ (c_needPlace h _ _ h0 h1) ⟨xB (n := 2) (k_232 h hb0) (k_1 h hb0) (k_230 h hb0) (by decide) rfl rfl rfl (by decide) (by decide), (k_231 h hb0)⟩ (xpS hb0 hS hz (va_P.sub hP [] rfl)) rfl rfl hl.1 rfl (lv_room (Nat.le_of_ble_eq_true rfl)) dX5_boxAt_18 ⟨(Nat.le_of_ble_eq_true rfl), (Nat.le_of_ble_eq_true rfl)⟩) ?_
  refine lv_aload_n hx hb dX5_boxAt_21 rfl (lv_at hl 0 rfl) ?_
  refine va_get (D := (dC, dI)) (ci := 5) (v := .ref br) (C := RX5) (T := TX5) (N := 5) hx hb (ly_5 h hb0) (fun _ z => z) hown hK hP 0 rfl rfl 2 (by decide) (k_112 h hb0) (fun _ z => z) rfl dX5_boxAt_22 ?_
  refine lv_iload_n hx hb dX5_boxAt_25 rfl (lv_at hl 1 rfl) ?_
  refine xr_1 (va_runV (As := [.int p1]) (rest := []) ⟨hx, hb, hml, hown, xTs⟩ (c_boxAtPlace h br pl z1 z2 z3 f p1 hi) ⟨xB (n := 1) (k_432 h hb0) (k_4 h hb0) (k_429 h hb0) (by decide) rfl rfl rfl (by decide) (by decide), (k_430 h hb0), (k_431 h hb0)⟩ (xpV hb0 hS hz (va_P.sub hP [1, 2] rfl) (va_recv hK hP (ci := 1) (q0 := 1) rfl rfl)) rfl rfl hl.1 rfl (lv_room (Nat.le_of_ble_eq_true rfl)) dX5_boxAt_26 ⟨(Nat.le_of_ble_eq_true rfl), (Nat.le_of_ble_eq_true rfl)⟩) ?_
  rw [hf]
  show W _ _ _ _ _ _ _ _ _ _ _ _ _ _ _ (F0 m 29 ls [.ref a])
  refine lv_astore_n (lv' := [(2, .ref a), (0, .ref b), (1, .int p1)]) hx hb dX5_boxAt_29 rfl hl (by decide) rfl (fun ls hl => ?_)
  refine lv_aload_n hx hb dX5_boxAt_30 rfl (lv_at hl 0 rfl) ?_
  refine lv_ifnonnull (tgt := 44) hx hb dX5_boxAt_31 (by decide) ?_
  refine lv_aload_n hx hb dX5_boxAt_44 rfl (lv_at hl 0 rfl) ?_
  exact W.aret hx hb hr (Or.inl ⟨_, rfl⟩) (Or.inr ⟨_, rfl⟩) (fun t ht _ => ⟨rfl, ht⟩) (fun q z => nomatch z) dX5_boxAt_45
set_option maxHeartbeats 4000000 in
set_option maxRecDepth 100000 in
theorem t_boxAt_N {l : Launch} {s0 : State} {a0 : Array Value} {dC : Nat → ClassId} {dI : Nat → Nat → Nat} {cA : Nat → ClassId} (h : xC l s0 a0 dC dI cA) (b gr br : Nat) (wr ca : Int32) (ro pl : Nat) (z1 z2 z3 p1 : Int32) (f : Nat → Option Nat) (hm : z1 = 0 ∨ z1 = 1) (ht : z1 = 0) : xt_Met l yX5_boxAt [Cond.code yX5_boxAt cX5_boxAt 3 (some (.object "FaultBench$Box"))] ({ frames := 8, cells := 1, slots := 8, locals := 140 } : Room) (xP s0 (dC, dI) [.ref b, .int p1] [(b, .inr (5, [.ref ro, .ref gr, .ref br, .int wr, .int ca])), (br, .inr (1, [.ref pl, .int z1, .int z2, .int z3])), (pl, .inl (cA 8, 19, .inr (.inr (.inr (.inr f)))))]) "java/lang/NullPointerException" 1 8 := by
  refine xt_ofW (cc := cX5_boxAt) (maxL := 3) (ret := (some (.object "FaultBench$Box"))) (by decide) rfl ?_
  intro p e s m args below meth c s₁ B hml hout hv
  obtain ⟨rfl, hb0, hP⟩ := hv
  have hx := B.exec
  have hb := B.bytes
  have hr := B.returns
  have hown : s.vm.findClass RX5 = some m.cls := findClass_of_methodNamed B.named
  have hlocks := B.notSynchronized
  have hK := h.K hb0
  have hS : va_S (fun _ : Nat => False) s.heap s.heap [] := va_S.rf
  have hz : ∀ q : Nat, (fun _ : Nat => False) q → s0.heap.size ≤ q := fun _ z => z.elim
  have hl := lv_entry ([.ref b, .int p1]) (n := 3) (Nat.le_of_ble_eq_true rfl)
  rw [lg_entry_eq]
  generalize (lg_sl ([.ref b, .int p1]) ++ List.replicate (3 - (lg_sl ([.ref b, .int p1])).length) Slot.unset).toArray = ls at hl ⊢
  have hl : lv_has ls 3 [(0, .ref b), (1, .int p1)] := hl
  refine lv_aload_n hx hb dX5_boxAt_0 rfl (lv_at hl 0 rfl) ?_
  refine va_get (D := (dC, dI)) (ci := 5) (v := .ref br) (C := RX5) (T := TX5) (N := 5) hx hb (ly_5 h hb0) (fun _ z => z) hown hK hP 0 rfl rfl 2 (by decide) (k_112 h hb0) (fun _ z => z) rfl dX5_boxAt_1 ?_
  refine xr_1 (va_runV (As := []) (rest := []) ⟨hx, hb, hml, hown, xTs⟩ (c_bisMade h br pl z1 z2 z3 hm) ⟨xB (n := 0) (k_364 h hb0) (k_4 h hb0) (k_361 h hb0) (by decide) rfl rfl rfl (by decide) (by decide), (k_362 h hb0), (k_363 h hb0)⟩ (xpV hb0 hS hz (va_P.sub hP [1] rfl) (va_recv hK hP (ci := 1) (q0 := 1) rfl rfl)) rfl rfl hl.1 rfl (lv_room (Nat.le_of_ble_eq_true rfl)) dX5_boxAt_4 ⟨(Nat.le_of_ble_eq_true rfl), (Nat.le_of_ble_eq_true rfl)⟩) ?_
  exact xt_callS (As := [.int z1]) (rest := []) ⟨hx, hb, hml, hown, xTs⟩ (t_needThere h _ ht) ⟨xB (n := 1) (k_140 h hb0) (k_1 h hb0) (k_138 h hb0) (by decide) rfl rfl rfl (by decide) (by decide), (k_139 h hb0)⟩ (xpS hb0 hS hz (va_P.sub hP [] rfl)) rfl rfl hl.1 rfl (lv_room (Nat.le_of_ble_eq_true rfl)) dX5_boxAt_7 ⟨(Nat.le_of_ble_eq_true rfl), (Nat.le_of_ble_eq_true rfl)⟩ (fun q ce H1 h1 h2 h3 h4 h5 => xt_out hout hlocks h1 h2 h3 (Nat.le_of_ble_eq_true rfl) (Nat.le_of_ble_eq_true rfl))
set_option maxHeartbeats 4000000 in
set_option maxRecDepth 100000 in
theorem t_boxAt_A {l : Launch} {s0 : State} {a0 : Array Value} {dC : Nat → ClassId} {dI : Nat → Nat → Nat} {cA : Nat → ClassId} (h : xC l s0 a0 dC dI cA) (b gr br : Nat) (wr ca : Int32) (ro pl : Nat) (z1 z2 z3 p1 : Int32) (f : Nat → Option Nat) (hm : z1 = 0 ∨ z1 = 1) (ht : ¬ z1 = 0) (hc : p1 < 0 ∨ ¬ p1 < z3) : xt_Met l yX5_boxAt [Cond.code yX5_boxAt cX5_boxAt 3 (some (.object "FaultBench$Box"))] ({ frames := 8, cells := 1, slots := 8, locals := 140 } : Room) (xP s0 (dC, dI) [.ref b, .int p1] [(b, .inr (5, [.ref ro, .ref gr, .ref br, .int wr, .int ca])), (br, .inr (1, [.ref pl, .int z1, .int z2, .int z3])), (pl, .inl (cA 8, 19, .inr (.inr (.inr (.inr f)))))]) "java/lang/ArrayIndexOutOfBoundsException" 1 8 := by
  refine xt_ofW (cc := cX5_boxAt) (maxL := 3) (ret := (some (.object "FaultBench$Box"))) (by decide) rfl ?_
  intro p e s m args below meth c s₁ B hml hout hv
  obtain ⟨rfl, hb0, hP⟩ := hv
  have hx := B.exec
  have hb := B.bytes
  have hr := B.returns
  have hown : s.vm.findClass RX5 = some m.cls := findClass_of_methodNamed B.named
  have hlocks := B.notSynchronized
  have hK := h.K hb0
  have hS : va_S (fun _ : Nat => False) s.heap s.heap [] := va_S.rf
  have hz : ∀ q : Nat, (fun _ : Nat => False) q → s0.heap.size ≤ q := fun _ z => z.elim
  have hl := lv_entry ([.ref b, .int p1]) (n := 3) (Nat.le_of_ble_eq_true rfl)
  rw [lg_entry_eq]
  generalize (lg_sl ([.ref b, .int p1]) ++ List.replicate (3 - (lg_sl ([.ref b, .int p1])).length) Slot.unset).toArray = ls at hl ⊢
  have hl : lv_has ls 3 [(0, .ref b), (1, .int p1)] := hl
  refine lv_aload_n hx hb dX5_boxAt_0 rfl (lv_at hl 0 rfl) ?_
  refine va_get (D := (dC, dI)) (ci := 5) (v := .ref br) (C := RX5) (T := TX5) (N := 5) hx hb (ly_5 h hb0) (fun _ z => z) hown hK hP 0 rfl rfl 2 (by decide) (k_112 h hb0) (fun _ z => z) rfl dX5_boxAt_1 ?_
  refine xr_1 (va_runV (As := []) (rest := []) ⟨hx, hb, hml, hown, xTs⟩ (c_bisMade h br pl z1 z2 z3 hm) ⟨xB (n := 0) (k_364 h hb0) (k_4 h hb0) (k_361 h hb0) (by decide) rfl rfl rfl (by decide) (by decide), (k_362 h hb0), (k_363 h hb0)⟩ (xpV hb0 hS hz (va_P.sub hP [1] rfl) (va_recv hK hP (ci := 1) (q0 := 1) rfl rfl)) rfl rfl hl.1 rfl (lv_room (Nat.le_of_ble_eq_true rfl)) dX5_boxAt_4 ⟨(Nat.le_of_ble_eq_true rfl), (Nat.le_of_ble_eq_true rfl)⟩) ?_
  refine xr_0 (va_runS (As := [.int z1]) (rest := []) ⟨hx, hb, hml, hown, xTs⟩ (c_needThere h _ ht) ⟨xB (n := 1) (k_140 h hb0) (k_1 h hb0) (k_138 h hb0) (by decide) rfl rfl rfl (by decide) (by decide), (k_139 h hb0)⟩ (xpS hb0 hS hz (va_P.sub hP [] rfl)) rfl rfl hl.1 rfl (lv_room (Nat.le_of_ble_eq_true rfl)) dX5_boxAt_7 ⟨(Nat.le_of_ble_eq_true rfl), (Nat.le_of_ble_eq_true rfl)⟩) ?_
  refine lv_iload_n hx hb dX5_boxAt_10 rfl (lv_at hl 1 rfl) ?_
  refine lv_aload_n hx hb dX5_boxAt_11 rfl (lv_at hl 0 rfl) ?_
  refine va_get (D := (dC, dI)) (ci := 5) (v := .ref br) (C := RX5) (T := TX5) (N := 5) hx hb (ly_5 h hb0) (fun _ z => z) hown hK hP 0 rfl rfl 2 (by decide) (k_112 h hb0) (fun _ z => z) rfl dX5_boxAt_12 ?_
  refine xr_1 (va_runV (As := []) (rest := [.int p1]) ⟨hx, hb, hml, hown, xTs⟩ (c_bplaceCount h br pl z1 z2 z3) ⟨xB (n := 0) (k_368 h hb0) (k_4 h hb0) (k_365 h hb0) (by decide) rfl rfl rfl (by decide) (by decide), (k_366 h hb0), (k_367 h hb0)⟩ (xpV hb0 hS hz (va_P.sub hP [1] rfl) (va_recv hK hP (ci := 1) (q0 := 1) rfl rfl)) rfl rfl hl.1 rfl (lv_room (Nat.le_of_ble_eq_true rfl)) dX5_boxAt_15 ⟨(Nat.le_of_ble_eq_true rfl), (Nat.le_of_ble_eq_true rfl)⟩) ?_
  exact xt_callS (As := [.int p1, .int z3]) (rest := []) ⟨hx, hb, hml, hown, xTs⟩ (t_needPlace h _ _ hc) ⟨xB (n := 2) (k_232 h hb0) (k_1 h hb0) (k_230 h hb0) (by decide) rfl rfl rfl (by decide) (by decide), (k_231 h hb0)⟩ (xpS hb0 hS hz (va_P.sub hP [] rfl)) rfl rfl hl.1 rfl (lv_room (Nat.le_of_ble_eq_true rfl)) dX5_boxAt_18 ⟨(Nat.le_of_ble_eq_true rfl), (Nat.le_of_ble_eq_true rfl)⟩ (fun q ce H1 h1 h2 h3 h4 h5 => xt_out hout hlocks h1 h2 h3 (Nat.le_of_ble_eq_true rfl) (Nat.le_of_ble_eq_true rfl))
set_option maxHeartbeats 4000000 in
set_option maxRecDepth 100000 in
theorem t_boxAt_2 {l : Launch} {s0 : State} {a0 : Array Value} {dC : Nat → ClassId} {dI : Nat → Nat → Nat} {cA : Nat → ClassId} (h : xC l s0 a0 dC dI cA) (b gr br : Nat) (wr ca : Int32) (ro pl : Nat) (z1 z2 z3 p1 : Int32) (f : Nat → Option Nat) (hm : z1 = 0 ∨ z1 = 1) (ht : ¬ z1 = 0) (h0 : ¬ p1 < 0) (h1 : p1 < z3) (hi : vp_in p1 19) (hf : f p1.toNatClampNeg = none) : xt_Met l yX5_boxAt [Cond.code yX5_boxAt cX5_boxAt 3 (some (.object "FaultBench$Box"))] ({ frames := 8, cells := 1, slots := 8, locals := 140 } : Room) (xP s0 (dC, dI) [.ref b, .int p1] [(b, .inr (5, [.ref ro, .ref gr, .ref br, .int wr, .int ca])), (br, .inr (1, [.ref pl, .int z1, .int z2, .int z3])), (pl, .inl (cA 8, 19, .inr (.inr (.inr (.inr f)))))]) "java/lang/NullPointerException" 1 8 := by
  refine xt_ofW (cc := cX5_boxAt) (maxL := 3) (ret := (some (.object "FaultBench$Box"))) (by decide) rfl ?_
  intro p e s m args below meth c s₁ B hml hout hv
  obtain ⟨rfl, hb0, hP⟩ := hv
  have hx := B.exec
  have hb := B.bytes
  have hr := B.returns
  have hown : s.vm.findClass RX5 = some m.cls := findClass_of_methodNamed B.named
  have hlocks := B.notSynchronized
  have hK := h.K hb0
  have hS : va_S (fun _ : Nat => False) s.heap s.heap [] := va_S.rf
  have hz : ∀ q : Nat, (fun _ : Nat => False) q → s0.heap.size ≤ q := fun _ z => z.elim
  have hl := lv_entry ([.ref b, .int p1]) (n := 3) (Nat.le_of_ble_eq_true rfl)
  rw [lg_entry_eq]
  generalize (lg_sl ([.ref b, .int p1]) ++ List.replicate (3 - (lg_sl ([.ref b, .int p1])).length) Slot.unset).toArray = ls at hl ⊢
  have hl : lv_has ls 3 [(0, .ref b), (1, .int p1)] := hl
  refine lv_aload_n hx hb dX5_boxAt_0 rfl (lv_at hl 0 rfl) ?_
  refine va_get (D := (dC, dI)) (ci := 5) (v := .ref br) (C := RX5) (T := TX5) (N := 5) hx hb (ly_5 h hb0) (fun _ z => z) hown hK hP 0 rfl rfl 2 (by decide) (k_112 h hb0) (fun _ z => z) rfl dX5_boxAt_1 ?_
  refine xr_1 (va_runV (As := []) (rest := []) ⟨hx, hb, hml, hown, xTs⟩ (c_bisMade h br pl z1 z2 z3 hm) ⟨xB (n := 0) (k_364 h hb0) (k_4 h hb0) (k_361 h hb0) (by decide) rfl rfl rfl (by decide) (by decide), (k_362 h hb0), (k_363 h hb0)⟩ (xpV hb0 hS hz (va_P.sub hP [1] rfl) (va_recv hK hP (ci := 1) (q0 := 1) rfl rfl)) rfl rfl hl.1 rfl (lv_room (Nat.le_of_ble_eq_true rfl)) dX5_boxAt_4 ⟨(Nat.le_of_ble_eq_true rfl), (Nat.le_of_ble_eq_true rfl)⟩) ?_
  refine xr_0 (va_runS (As := [.int z1]) (rest := []) ⟨hx, hb, hml, hown, xTs⟩ (c_needThere h _ ht) ⟨xB (n := 1) (k_140 h hb0) (k_1 h hb0) (k_138 h hb0) (by decide) rfl rfl rfl (by decide) (by decide), (k_139 h hb0)⟩ (xpS hb0 hS hz (va_P.sub hP [] rfl)) rfl rfl hl.1 rfl (lv_room (Nat.le_of_ble_eq_true rfl)) dX5_boxAt_7 ⟨(Nat.le_of_ble_eq_true rfl), (Nat.le_of_ble_eq_true rfl)⟩) ?_
  refine lv_iload_n hx hb dX5_boxAt_10 rfl (lv_at hl 1 rfl) ?_
  refine lv_aload_n hx hb dX5_boxAt_11 rfl (lv_at hl 0 rfl) ?_
  refine va_get (D := (dC, dI)) (ci := 5) (v := .ref br) (C := RX5) (T := TX5) (N := 5) hx hb (ly_5 h hb0) (fun _ z => z) hown hK hP 0 rfl rfl 2 (by decide) (k_112 h hb0) (fun _ z => z) rfl dX5_boxAt_12 ?_
  refine xr_1 (va_runV (As := []) (rest := [.int p1]) ⟨hx, hb, hml, hown, xTs⟩ (c_bplaceCount h br pl z1 z2 z3) ⟨xB (n := 0) (k_368 h hb0) (k_4 h hb0) (k_365 h hb0) (by decide) rfl rfl rfl (by decide) (by decide), (k_366 h hb0), (k_367 h hb0)⟩ (xpV hb0 hS hz (va_P.sub hP [1] rfl) (va_recv hK hP (ci := 1) (q0 := 1) rfl rfl)) rfl rfl hl.1 rfl (lv_room (Nat.le_of_ble_eq_true rfl)) dX5_boxAt_15 ⟨(Nat.le_of_ble_eq_true rfl), (Nat.le_of_ble_eq_true rfl)⟩) ?_
  refine xr_0 (va_runS (As := [.int p1, .int z3]) (rest := []) ⟨hx, hb, hml, hown, xTs⟩ (c_needPlace h _ _ h0 h1) ⟨xB (n := 2) (k_232 h hb0) (k_1 h hb0) (k_230 h hb0) (by decide) rfl rfl rfl (by decide) (by decide), (k_231 h hb0)⟩ (xpS hb0 hS hz (va_P.sub hP [] rfl)) rfl rfl hl.1 rfl (lv_room (Nat.le_of_ble_eq_true rfl)) dX5_boxAt_18 ⟨(Nat.le_of_ble_eq_true rfl), (Nat.le_of_ble_eq_true rfl)⟩) ?_
  refine lv_aload_n hx hb dX5_boxAt_21 rfl (lv_at hl 0 rfl) ?_
  refine va_get (D := (dC, dI)) (ci := 5) (v := .ref br) (C := RX5) (T := TX5) (N := 5) hx hb (ly_5 h hb0) (fun _ z => z) hown hK hP 0 rfl rfl 2 (by decide) (k_112 h hb0) (fun _ z => z) rfl dX5_boxAt_22 ?_
  refine lv_iload_n hx hb dX5_boxAt_25 rfl (lv_at hl 1 rfl) ?_
  refine xr_1 (va_runV (As := [.int p1]) (rest := []) ⟨hx, hb, hml, hown, xTs⟩ (c_boxAtPlace h br pl z1 z2 z3 f p1 hi) ⟨xB (n := 1) (k_432 h hb0) (k_4 h hb0) (k_429 h hb0) (by decide) rfl rfl rfl (by decide) (by decide), (k_430 h hb0), (k_431 h hb0)⟩ (xpV hb0 hS hz (va_P.sub hP [1, 2] rfl) (va_recv hK hP (ci := 1) (q0 := 1) rfl rfl)) rfl rfl hl.1 rfl (lv_room (Nat.le_of_ble_eq_true rfl)) dX5_boxAt_26 ⟨(Nat.le_of_ble_eq_true rfl), (Nat.le_of_ble_eq_true rfl)⟩) ?_
  rw [hf]
  show W _ _ _ _ _ _ _ _ _ _ _ _ _ _ _ (F0 m 29 ls [.null])
  refine lv_astore_nN (lv' := [(2, .null), (0, .ref b), (1, .int p1)]) hx hb dX5_boxAt_29 rfl hl (by decide) rfl (fun ls hl => ?_)
  refine lv_aload_nN hx hb dX5_boxAt_30 rfl (lv_at hl 0 rfl) ?_
  refine lv_ifnonnullN hx hb dX5_boxAt_31 ?_
  exact xt_throwN (own := RX5) hx hb h.1 hown (k_141 h hb0) (k_9 h hb0) (k_433 h hb0) (xo_140 h hb0) (hl.1.trans hml.symm) hout hlocks dX5_boxAt_34 dX5_boxAt_37 dX5_boxAt_38 dX5_boxAt_40 dX5_boxAt_43 (by decide) (by decide) (by decide) (by decide) (by decide) (by decide)
set_option maxHeartbeats 4000000 in
set_option maxRecDepth 100000 in
theorem t_value_N {l : Launch} {s0 : State} {a0 : Array Value} {dC : Nat → ClassId} {dI : Nat → Nat → Nat} {cA : Nat → ClassId} (h : xC l s0 a0 dC dI cA) (b gr br : Nat) (wr ca : Int32) (ro pl : Nat) (z1 z2 z3 p1 : Int32) (f : Nat → Option Nat) (hm : z1 = 0 ∨ z1 = 1) (ht : z1 = 0) : xt_Met l yX5_value [Cond.code yX5_value cX5_value 2 (some .int)] ({ frames := 9, cells := 1, slots := 8, locals := 170 } : Room) (xP s0 (dC, dI) [.ref b, .int p1] [(b, .inr (5, [.ref ro, .ref gr, .ref br, .int wr, .int ca])), (br, .inr (1, [.ref pl, .int z1, .int z2, .int z3])), (pl, .inl (cA 8, 19, .inr (.inr (.inr (.inr f)))))]) "java/lang/NullPointerException" 1 8 := by
  refine xt_ofW (cc := cX5_value) (maxL := 2) (ret := (some .int)) (by decide) rfl ?_
  intro p e s m args below meth c s₁ B hml hout hv
  obtain ⟨rfl, hb0, hP⟩ := hv
  have hx := B.exec
  have hb := B.bytes
  have hr := B.returns
  have hown : s.vm.findClass RX5 = some m.cls := findClass_of_methodNamed B.named
  have hlocks := B.notSynchronized
  have hK := h.K hb0
  have hS : va_S (fun _ : Nat => False) s.heap s.heap [] := va_S.rf
  have hz : ∀ q : Nat, (fun _ : Nat => False) q → s0.heap.size ≤ q := fun _ z => z.elim
  have hl := lv_entry ([.ref b, .int p1]) (n := 2) (Nat.le_of_ble_eq_true rfl)
  rw [lg_entry_eq]
  generalize (lg_sl ([.ref b, .int p1]) ++ List.replicate (2 - (lg_sl ([.ref b, .int p1])).length) Slot.unset).toArray = ls at hl ⊢
  have hl : lv_has ls 2 [(0, .ref b), (1, .int p1)] := hl
  refine lv_aload_n hx hb dX5_value_0 rfl (lv_at hl 0 rfl) ?_
  refine lv_iload_n hx hb dX5_value_1 rfl (lv_at hl 1 rfl) ?_
  exact xt_callV (As := [.int p1]) (rest := []) ⟨hx, hb, hml, hown, xTs⟩ (t_boxAt_N h b gr br wr ca ro pl z1 z2 z3 p1 f hm ht) ⟨xB (n := 1) (k_428 h hb0) (k_1 h hb0) (k_425 h hb0) (by decide) rfl rfl rfl (by decide) (by decide), (k_427 h hb0), (ks_2 h hb0)⟩ (xpV hb0 hS hz (va_P.sub hP [0, 1, 2] rfl) (va_recv hK hP (ci := 5) (q0 := 0) rfl rfl)) rfl rfl hl.1 rfl (lv_room (Nat.le_of_ble_eq_true rfl)) dX5_value_2 ⟨(Nat.le_of_ble_eq_true rfl), (Nat.le_of_ble_eq_true rfl)⟩ (fun q ce H1 h1 h2 h3 h4 h5 => xt_out hout hlocks h1 h2 h3 (Nat.le_of_ble_eq_true rfl) (Nat.le_of_ble_eq_true rfl))
set_option maxHeartbeats 4000000 in
set_option maxRecDepth 100000 in
theorem t_value_A {l : Launch} {s0 : State} {a0 : Array Value} {dC : Nat → ClassId} {dI : Nat → Nat → Nat} {cA : Nat → ClassId} (h : xC l s0 a0 dC dI cA) (b gr br : Nat) (wr ca : Int32) (ro pl : Nat) (z1 z2 z3 p1 : Int32) (f : Nat → Option Nat) (hm : z1 = 0 ∨ z1 = 1) (ht : ¬ z1 = 0) (hc : p1 < 0 ∨ ¬ p1 < z3) : xt_Met l yX5_value [Cond.code yX5_value cX5_value 2 (some .int)] ({ frames := 9, cells := 1, slots := 8, locals := 170 } : Room) (xP s0 (dC, dI) [.ref b, .int p1] [(b, .inr (5, [.ref ro, .ref gr, .ref br, .int wr, .int ca])), (br, .inr (1, [.ref pl, .int z1, .int z2, .int z3])), (pl, .inl (cA 8, 19, .inr (.inr (.inr (.inr f)))))]) "java/lang/ArrayIndexOutOfBoundsException" 1 8 := by
  refine xt_ofW (cc := cX5_value) (maxL := 2) (ret := (some .int)) (by decide) rfl ?_
  intro p e s m args below meth c s₁ B hml hout hv
  obtain ⟨rfl, hb0, hP⟩ := hv
  have hx := B.exec
  have hb := B.bytes
  have hr := B.returns
  have hown : s.vm.findClass RX5 = some m.cls := findClass_of_methodNamed B.named
  have hlocks := B.notSynchronized
  have hK := h.K hb0
  have hS : va_S (fun _ : Nat => False) s.heap s.heap [] := va_S.rf
  have hz : ∀ q : Nat, (fun _ : Nat => False) q → s0.heap.size ≤ q := fun _ z => z.elim
  have hl := lv_entry ([.ref b, .int p1]) (n := 2) (Nat.le_of_ble_eq_true rfl)
  rw [lg_entry_eq]
  generalize (lg_sl ([.ref b, .int p1]) ++ List.replicate (2 - (lg_sl ([.ref b, .int p1])).length) Slot.unset).toArray = ls at hl ⊢
  have hl : lv_has ls 2 [(0, .ref b), (1, .int p1)] := hl
  refine lv_aload_n hx hb dX5_value_0 rfl (lv_at hl 0 rfl) ?_
  refine lv_iload_n hx hb dX5_value_1 rfl (lv_at hl 1 rfl) ?_
  exact xt_callV (As := [.int p1]) (rest := []) ⟨hx, hb, hml, hown, xTs⟩ (t_boxAt_A h b gr br wr ca ro pl z1 z2 z3 p1 f hm ht hc) ⟨xB (n := 1) (k_428 h hb0) (k_1 h hb0) (k_425 h hb0) (by decide) rfl rfl rfl (by decide) (by decide), (k_427 h hb0), (ks_2 h hb0)⟩ (xpV hb0 hS hz (va_P.sub hP [0, 1, 2] rfl) (va_recv hK hP (ci := 5) (q0 := 0) rfl rfl)) rfl rfl hl.1 rfl (lv_room (Nat.le_of_ble_eq_true rfl)) dX5_value_2 ⟨(Nat.le_of_ble_eq_true rfl), (Nat.le_of_ble_eq_true rfl)⟩ (fun q ce H1 h1 h2 h3 h4 h5 => xt_out hout hlocks h1 h2 h3 (Nat.le_of_ble_eq_true rfl) (Nat.le_of_ble_eq_true rfl))
set_option maxHeartbeats 4000000 in
set_option maxRecDepth 100000 in
theorem t_value_2 {l : Launch} {s0 : State} {a0 : Array Value} {dC : Nat → ClassId} {dI : Nat → Nat → Nat} {cA : Nat → ClassId} (h : xC l s0 a0 dC dI cA) (b gr br : Nat) (wr ca : Int32) (ro pl : Nat) (z1 z2 z3 p1 : Int32) (f : Nat → Option Nat) (hm : z1 = 0 ∨ z1 = 1) (ht : ¬ z1 = 0) (h0 : ¬ p1 < 0) (h1 : p1 < z3) (hi : vp_in p1 19) (hf : f p1.toNatClampNeg = none) : xt_Met l yX5_value [Cond.code yX5_value cX5_value 2 (some .int)] ({ frames := 9, cells := 1, slots := 8, locals := 170 } : Room) (xP s0 (dC, dI) [.ref b, .int p1] [(b, .inr (5, [.ref ro, .ref gr, .ref br, .int wr, .int ca])), (br, .inr (1, [.ref pl, .int z1, .int z2, .int z3])), (pl, .inl (cA 8, 19, .inr (.inr (.inr (.inr f)))))]) "java/lang/NullPointerException" 1 8 := by
  refine xt_ofW (cc := cX5_value) (maxL := 2) (ret := (some .int)) (by decide) rfl ?_
  intro p e s m args below meth c s₁ B hml hout hv
  obtain ⟨rfl, hb0, hP⟩ := hv
  have hx := B.exec
  have hb := B.bytes
  have hr := B.returns
  have hown : s.vm.findClass RX5 = some m.cls := findClass_of_methodNamed B.named
  have hlocks := B.notSynchronized
  have hK := h.K hb0
  have hS : va_S (fun _ : Nat => False) s.heap s.heap [] := va_S.rf
  have hz : ∀ q : Nat, (fun _ : Nat => False) q → s0.heap.size ≤ q := fun _ z => z.elim
  have hl := lv_entry ([.ref b, .int p1]) (n := 2) (Nat.le_of_ble_eq_true rfl)
  rw [lg_entry_eq]
  generalize (lg_sl ([.ref b, .int p1]) ++ List.replicate (2 - (lg_sl ([.ref b, .int p1])).length) Slot.unset).toArray = ls at hl ⊢
  have hl : lv_has ls 2 [(0, .ref b), (1, .int p1)] := hl
  refine lv_aload_n hx hb dX5_value_0 rfl (lv_at hl 0 rfl) ?_
  refine lv_iload_n hx hb dX5_value_1 rfl (lv_at hl 1 rfl) ?_
  exact xt_callV (As := [.int p1]) (rest := []) ⟨hx, hb, hml, hown, xTs⟩ (t_boxAt_2 h b gr br wr ca ro pl z1 z2 z3 p1 f hm ht h0 h1 hi hf) ⟨xB (n := 1) (k_428 h hb0) (k_1 h hb0) (k_425 h hb0) (by decide) rfl rfl rfl (by decide) (by decide), (k_427 h hb0), (ks_2 h hb0)⟩ (xpV hb0 hS hz (va_P.sub hP [0, 1, 2] rfl) (va_recv hK hP (ci := 5) (q0 := 0) rfl rfl)) rfl rfl hl.1 rfl (lv_room (Nat.le_of_ble_eq_true rfl)) dX5_value_2 ⟨(Nat.le_of_ble_eq_true rfl), (Nat.le_of_ble_eq_true rfl)⟩ (fun q ce H1 h1 h2 h3 h4 h5 => xt_out hout hlocks h1 h2 h3 (Nat.le_of_ble_eq_true rfl) (Nat.le_of_ble_eq_true rfl))
set_option maxHeartbeats 4000000 in
set_option maxRecDepth 100000 in
theorem c_value_0 {l : Launch} {s0 : State} {a0 : Array Value} {dC : Nat → ClassId} {dI : Nat → Nat → Nat} {cA : Nat → ClassId} (h : xC l s0 a0 dC dI cA) (b gr br : Nat) (wr ca : Int32) (ro pl : Nat) (z1 z2 z3 p1 : Int32) (f : Nat → Option Nat) (a : Nat) (v : Int32) (hm : z1 = 0 ∨ z1 = 1) (ht : ¬ z1 = 0) (h0 : ¬ p1 < 0) (h1 : p1 < z3) (hi : vp_in p1 19) (hf : f p1.toNatClampNeg = some a) : Met l yX5_value [Cond.code yX5_value cX5_value 2 (some .int)] ({ frames := 2, cells := 0, slots := 0, locals := 80 } : Room) (xP s0 (dC, dI) [.ref b, .int p1] [(b, .inr (5, [.ref ro, .ref gr, .ref br, .int wr, .int ca])), (br, .inr (1, [.ref pl, .int z1, .int z2, .int z3])), (pl, .inl (cA 8, 19, .inr (.inr (.inr (.inr f))))), (a, .inr (0, [.int v]))]) (xR (some (.int v))) 0 0 (fun _ => False) := by
  refine Met.ofW (cc := cX5_value) (maxL := 2) (ret := (some .int)) (by decide) rfl ?_
  intro p e s m args below meth c s₁ B hml hv
  obtain ⟨rfl, hb0, hP⟩ := hv
  have hx := B.exec
  have hb := B.bytes
  have hr := B.returns
  have hown : s.vm.findClass RX5 = some m.cls := findClass_of_methodNamed B.named
  have hlocks := B.notSynchronized
  have hK := h.K hb0
  have hS : va_S (fun _ : Nat => False) s.heap s.heap [] := va_S.rf
  have hz : ∀ q : Nat, (fun _ : Nat => False) q → s0.heap.size ≤ q := fun _ z => z.elim
  have hl := lv_entry ([.ref b, .int p1]) (n := 2) (Nat.le_of_ble_eq_true rfl)
  rw [lg_entry_eq]
  generalize (lg_sl ([.ref b, .int p1]) ++ List.replicate (2 - (lg_sl ([.ref b, .int p1])).length) Slot.unset).toArray = ls at hl ⊢
  have hl : lv_has ls 2 [(0, .ref b), (1, .int p1)] := hl
  refine lv_aload_n hx hb dX5_value_0 rfl (lv_at hl 0 rfl) ?_
  refine lv_iload_n hx hb dX5_value_1 rfl (lv_at hl 1 rfl) ?_
  refine xr_1 (va_runV (As := [.int p1]) (rest := []) ⟨hx, hb, hml, hown, xTs⟩ (c_boxAt h b gr br wr ca ro pl z1 z2 z3 p1 f a hm ht h0 h1 hi hf) ⟨xB (n := 1) (k_428 h hb0) (k_1 h hb0) (k_425 h hb0) (by decide) rfl rfl rfl (by decide) (by decide), (k_427 h hb0), (ks_2 h hb0)⟩ (xpV hb0 hS hz (va_P.sub hP [0, 1, 2] rfl) (va_recv hK hP (ci := 5) (q0 := 0) rfl rfl)) rfl rfl hl.1 rfl (lv_room (Nat.le_of_ble_eq_true rfl)) dX5_value_2 ⟨(Nat.le_of_ble_eq_true rfl), (Nat.le_of_ble_eq_true rfl)⟩) ?_
  refine va_get (D := (dC, dI)) (ci := 0) (v := .int v) (C := RX0) (T := TX0) (N := 1) hx hb (ly_0 h hb0) (fun _ z => z) hown hK hP 3 rfl rfl 0 (by decide) (k_381 h hb0) (fun _ z => z) rfl dX5_value_5 ?_
  exact W.iret hx hb hr (fun t ht _ => ⟨rfl, ht⟩) (fun q z => nomatch z) dX5_value_8
set_option maxHeartbeats 4000000 in
set_option maxRecDepth 100000 in
theorem c_value_2 {l : Launch} {s0 : State} {a0 : Array Value} {dC : Nat → ClassId} {dI : Nat → Nat → Nat} {cA : Nat → ClassId} (h : xC l s0 a0 dC dI cA) (b gr br : Nat) (wr ca : Int32) (ro pl : Nat) (z1 z2 z3 p1 : Int32) (f : Nat → Option Nat) (a : Nat) (v : Int32) (hm : z1 = 0 ∨ z1 = 1) (ht : ¬ z1 = 0) (h0 : ¬ p1 < 0) (h1 : p1 < z3) (hi : vp_in p1 19) (hf : f p1.toNatClampNeg = some a) : Met l yX5_value [Cond.code yX5_value cX5_value 2 (some .int)] ({ frames := 2, cells := 0, slots := 0, locals := 80 } : Room) (xP s0 (dC, dI) [.ref b, .int p1] [(b, .inr (5, [.ref ro, .ref gr, .ref br, .int wr, .int ca])), (br, .inr (1, [.ref pl, .int z1, .int z2, .int z3])), (pl, .inl (cA 8, 19, .inr (.inr (.inr (.inr f))))), (a, .inr (2, [.int v]))]) (xR (some (.int v))) 0 0 (fun _ => False) := by
  refine Met.ofW (cc := cX5_value) (maxL := 2) (ret := (some .int)) (by decide) rfl ?_
  intro p e s m args below meth c s₁ B hml hv
  obtain ⟨rfl, hb0, hP⟩ := hv
  have hx := B.exec
  have hb := B.bytes
  have hr := B.returns
  have hown : s.vm.findClass RX5 = some m.cls := findClass_of_methodNamed B.named
  have hlocks := B.notSynchronized
  have hK := h.K hb0
  have hS : va_S (fun _ : Nat => False) s.heap s.heap [] := va_S.rf
  have hz : ∀ q : Nat, (fun _ : Nat => False) q → s0.heap.size ≤ q := fun _ z => z.elim
  have hl := lv_entry ([.ref b, .int p1]) (n := 2) (Nat.le_of_ble_eq_true rfl)
  rw [lg_entry_eq]
  generalize (lg_sl ([.ref b, .int p1]) ++ List.replicate (2 - (lg_sl ([.ref b, .int p1])).length) Slot.unset).toArray = ls at hl ⊢
  have hl : lv_has ls 2 [(0, .ref b), (1, .int p1)] := hl
  refine lv_aload_n hx hb dX5_value_0 rfl (lv_at hl 0 rfl) ?_
  refine lv_iload_n hx hb dX5_value_1 rfl (lv_at hl 1 rfl) ?_
  refine xr_1 (va_runV (As := [.int p1]) (rest := []) ⟨hx, hb, hml, hown, xTs⟩ (c_boxAt h b gr br wr ca ro pl z1 z2 z3 p1 f a hm ht h0 h1 hi hf) ⟨xB (n := 1) (k_428 h hb0) (k_1 h hb0) (k_425 h hb0) (by decide) rfl rfl rfl (by decide) (by decide), (k_427 h hb0), (ks_2 h hb0)⟩ (xpV hb0 hS hz (va_P.sub hP [0, 1, 2] rfl) (va_recv hK hP (ci := 5) (q0 := 0) rfl rfl)) rfl rfl hl.1 rfl (lv_room (Nat.le_of_ble_eq_true rfl)) dX5_value_2 ⟨(Nat.le_of_ble_eq_true rfl), (Nat.le_of_ble_eq_true rfl)⟩) ?_
  refine va_get (D := (dC, dI)) (ci := 2) (v := .int v) (C := RX2) (T := TX2) (N := 1) hx hb (ly_2 h hb0) (fun _ z => z) hown hK hP 3 rfl rfl 0 (by decide) (k_381 h hb0) (fun _ z => z) rfl dX5_value_5 ?_
  exact W.iret hx hb hr (fun t ht _ => ⟨rfl, ht⟩) (fun q z => nomatch z) dX5_value_8
set_option maxHeartbeats 4000000 in
set_option maxRecDepth 100000 in
theorem t_change_N {l : Launch} {s0 : State} {a0 : Array Value} {dC : Nat → ClassId} {dI : Nat → Nat → Nat} {cA : Nat → ClassId} (h : xC l s0 a0 dC dI cA) (b gr br : Nat) (wr ca : Int32) (ro pl : Nat) (z1 z2 z3 p1 : Int32) (f : Nat → Option Nat) (p2 : Int32) (hm : z1 = 0 ∨ z1 = 1) (ht : z1 = 0) : xt_Met l yX5_change [Cond.code yX5_change cX5_change 5 (some .int)] ({ frames := 9, cells := 1, slots := 8, locals := 170 } : Room) (xP s0 (dC, dI) [.ref b, .int p1, .int p2] [(b, .inr (5, [.ref ro, .ref gr, .ref br, .int wr, .int ca])), (br, .inr (1, [.ref pl, .int z1, .int z2, .int z3])), (pl, .inl (cA 8, 19, .inr (.inr (.inr (.inr f)))))]) "java/lang/NullPointerException" 1 8 := by
  refine xt_ofW (cc := cX5_change) (maxL := 5) (ret := (some .int)) (by decide) rfl ?_
  intro p e s m args below meth c s₁ B hml hout hv
  obtain ⟨rfl, hb0, hP⟩ := hv
  have hx := B.exec
  have hb := B.bytes
  have hr := B.returns
  have hown : s.vm.findClass RX5 = some m.cls := findClass_of_methodNamed B.named
  have hlocks := B.notSynchronized
  have hK := h.K hb0
  have hS : va_S (fun _ : Nat => False) s.heap s.heap [] := va_S.rf
  have hz : ∀ q : Nat, (fun _ : Nat => False) q → s0.heap.size ≤ q := fun _ z => z.elim
  have hl := lv_entry ([.ref b, .int p1, .int p2]) (n := 5) (Nat.le_of_ble_eq_true rfl)
  rw [lg_entry_eq]
  generalize (lg_sl ([.ref b, .int p1, .int p2]) ++ List.replicate (5 - (lg_sl ([.ref b, .int p1, .int p2])).length) Slot.unset).toArray = ls at hl ⊢
  have hl : lv_has ls 5 [(0, .ref b), (1, .int p1), (2, .int p2)] := hl
  refine lv_aload_n hx hb dX5_change_0 rfl (lv_at hl 0 rfl) ?_
  refine lv_iload_n hx hb dX5_change_1 rfl (lv_at hl 1 rfl) ?_
  exact xt_callV (As := [.int p1]) (rest := []) ⟨hx, hb, hml, hown, xTs⟩ (t_boxAt_N h b gr br wr ca ro pl z1 z2 z3 p1 f hm ht) ⟨xB (n := 1) (k_428 h hb0) (k_1 h hb0) (k_425 h hb0) (by decide) rfl rfl rfl (by decide) (by decide), (k_427 h hb0), (ks_2 h hb0)⟩ (xpV hb0 hS hz (va_P.sub hP [0, 1, 2] rfl) (va_recv hK hP (ci := 5) (q0 := 0) rfl rfl)) rfl rfl hl.1 rfl (lv_room (Nat.le_of_ble_eq_true rfl)) dX5_change_2 ⟨(Nat.le_of_ble_eq_true rfl), (Nat.le_of_ble_eq_true rfl)⟩ (fun q ce H1 h1 h2 h3 h4 h5 => xt_out hout hlocks h1 h2 h3 (Nat.le_of_ble_eq_true rfl) (Nat.le_of_ble_eq_true rfl))
set_option maxHeartbeats 4000000 in
set_option maxRecDepth 100000 in
theorem t_change_A {l : Launch} {s0 : State} {a0 : Array Value} {dC : Nat → ClassId} {dI : Nat → Nat → Nat} {cA : Nat → ClassId} (h : xC l s0 a0 dC dI cA) (b gr br : Nat) (wr ca : Int32) (ro pl : Nat) (z1 z2 z3 p1 : Int32) (f : Nat → Option Nat) (p2 : Int32) (hm : z1 = 0 ∨ z1 = 1) (ht : ¬ z1 = 0) (hc : p1 < 0 ∨ ¬ p1 < z3) : xt_Met l yX5_change [Cond.code yX5_change cX5_change 5 (some .int)] ({ frames := 9, cells := 1, slots := 8, locals := 170 } : Room) (xP s0 (dC, dI) [.ref b, .int p1, .int p2] [(b, .inr (5, [.ref ro, .ref gr, .ref br, .int wr, .int ca])), (br, .inr (1, [.ref pl, .int z1, .int z2, .int z3])), (pl, .inl (cA 8, 19, .inr (.inr (.inr (.inr f)))))]) "java/lang/ArrayIndexOutOfBoundsException" 1 8 := by
  refine xt_ofW (cc := cX5_change) (maxL := 5) (ret := (some .int)) (by decide) rfl ?_
  intro p e s m args below meth c s₁ B hml hout hv
  obtain ⟨rfl, hb0, hP⟩ := hv
  have hx := B.exec
  have hb := B.bytes
  have hr := B.returns
  have hown : s.vm.findClass RX5 = some m.cls := findClass_of_methodNamed B.named
  have hlocks := B.notSynchronized
  have hK := h.K hb0
  have hS : va_S (fun _ : Nat => False) s.heap s.heap [] := va_S.rf
  have hz : ∀ q : Nat, (fun _ : Nat => False) q → s0.heap.size ≤ q := fun _ z => z.elim
  have hl := lv_entry ([.ref b, .int p1, .int p2]) (n := 5) (Nat.le_of_ble_eq_true rfl)
  rw [lg_entry_eq]
  generalize (lg_sl ([.ref b, .int p1, .int p2]) ++ List.replicate (5 - (lg_sl ([.ref b, .int p1, .int p2])).length) Slot.unset).toArray = ls at hl ⊢
  have hl : lv_has ls 5 [(0, .ref b), (1, .int p1), (2, .int p2)] := hl
  refine lv_aload_n hx hb dX5_change_0 rfl (lv_at hl 0 rfl) ?_
  refine lv_iload_n hx hb dX5_change_1 rfl (lv_at hl 1 rfl) ?_
  exact xt_callV (As := [.int p1]) (rest := []) ⟨hx, hb, hml, hown, xTs⟩ (t_boxAt_A h b gr br wr ca ro pl z1 z2 z3 p1 f hm ht hc) ⟨xB (n := 1) (k_428 h hb0) (k_1 h hb0) (k_425 h hb0) (by decide) rfl rfl rfl (by decide) (by decide), (k_427 h hb0), (ks_2 h hb0)⟩ (xpV hb0 hS hz (va_P.sub hP [0, 1, 2] rfl) (va_recv hK hP (ci := 5) (q0 := 0) rfl rfl)) rfl rfl hl.1 rfl (lv_room (Nat.le_of_ble_eq_true rfl)) dX5_change_2 ⟨(Nat.le_of_ble_eq_true rfl), (Nat.le_of_ble_eq_true rfl)⟩ (fun q ce H1 h1 h2 h3 h4 h5 => xt_out hout hlocks h1 h2 h3 (Nat.le_of_ble_eq_true rfl) (Nat.le_of_ble_eq_true rfl))
set_option maxHeartbeats 4000000 in
set_option maxRecDepth 100000 in
theorem t_change_2 {l : Launch} {s0 : State} {a0 : Array Value} {dC : Nat → ClassId} {dI : Nat → Nat → Nat} {cA : Nat → ClassId} (h : xC l s0 a0 dC dI cA) (b gr br : Nat) (wr ca : Int32) (ro pl : Nat) (z1 z2 z3 p1 : Int32) (f : Nat → Option Nat) (p2 : Int32) (hm : z1 = 0 ∨ z1 = 1) (ht : ¬ z1 = 0) (h0 : ¬ p1 < 0) (h1 : p1 < z3) (hi : vp_in p1 19) (hf : f p1.toNatClampNeg = none) : xt_Met l yX5_change [Cond.code yX5_change cX5_change 5 (some .int)] ({ frames := 9, cells := 1, slots := 8, locals := 170 } : Room) (xP s0 (dC, dI) [.ref b, .int p1, .int p2] [(b, .inr (5, [.ref ro, .ref gr, .ref br, .int wr, .int ca])), (br, .inr (1, [.ref pl, .int z1, .int z2, .int z3])), (pl, .inl (cA 8, 19, .inr (.inr (.inr (.inr f)))))]) "java/lang/NullPointerException" 1 8 := by
  refine xt_ofW (cc := cX5_change) (maxL := 5) (ret := (some .int)) (by decide) rfl ?_
  intro p e s m args below meth c s₁ B hml hout hv
  obtain ⟨rfl, hb0, hP⟩ := hv
  have hx := B.exec
  have hb := B.bytes
  have hr := B.returns
  have hown : s.vm.findClass RX5 = some m.cls := findClass_of_methodNamed B.named
  have hlocks := B.notSynchronized
  have hK := h.K hb0
  have hS : va_S (fun _ : Nat => False) s.heap s.heap [] := va_S.rf
  have hz : ∀ q : Nat, (fun _ : Nat => False) q → s0.heap.size ≤ q := fun _ z => z.elim
  have hl := lv_entry ([.ref b, .int p1, .int p2]) (n := 5) (Nat.le_of_ble_eq_true rfl)
  rw [lg_entry_eq]
  generalize (lg_sl ([.ref b, .int p1, .int p2]) ++ List.replicate (5 - (lg_sl ([.ref b, .int p1, .int p2])).length) Slot.unset).toArray = ls at hl ⊢
  have hl : lv_has ls 5 [(0, .ref b), (1, .int p1), (2, .int p2)] := hl
  refine lv_aload_n hx hb dX5_change_0 rfl (lv_at hl 0 rfl) ?_
  refine lv_iload_n hx hb dX5_change_1 rfl (lv_at hl 1 rfl) ?_
  exact xt_callV (As := [.int p1]) (rest := []) ⟨hx, hb, hml, hown, xTs⟩ (t_boxAt_2 h b gr br wr ca ro pl z1 z2 z3 p1 f hm ht h0 h1 hi hf) ⟨xB (n := 1) (k_428 h hb0) (k_1 h hb0) (k_425 h hb0) (by decide) rfl rfl rfl (by decide) (by decide), (k_427 h hb0), (ks_2 h hb0)⟩ (xpV hb0 hS hz (va_P.sub hP [0, 1, 2] rfl) (va_recv hK hP (ci := 5) (q0 := 0) rfl rfl)) rfl rfl hl.1 rfl (lv_room (Nat.le_of_ble_eq_true rfl)) dX5_change_2 ⟨(Nat.le_of_ble_eq_true rfl), (Nat.le_of_ble_eq_true rfl)⟩ (fun q ce H1 h1 h2 h3 h4 h5 => xt_out hout hlocks h1 h2 h3 (Nat.le_of_ble_eq_true rfl) (Nat.le_of_ble_eq_true rfl))
set_option maxHeartbeats 4000000 in
set_option maxRecDepth 100000 in
theorem c_change_0 {l : Launch} {s0 : State} {a0 : Array Value} {dC : Nat → ClassId} {dI : Nat → Nat → Nat} {cA : Nat → ClassId} (h : xC l s0 a0 dC dI cA) (b gr br : Nat) (wr ca : Int32) (ro pl : Nat) (z1 z2 z3 p1 : Int32) (f : Nat → Option Nat) (p2 : Int32) (a : Nat) (v : Int32) (sz : Nat) (hm : z1 = 0 ∨ z1 = 1) (ht : ¬ z1 = 0) (h0 : ¬ p1 < 0) (h1 : p1 < z3) (hi : vp_in p1 19) (hf : f p1.toNatClampNeg = some a) : Met l yX5_change [Cond.code yX5_change cX5_change 5 (some .int)] ({ frames := 2, cells := 0, slots := 0, locals := 80 } : Room) (xPM s0 (dC, dI) [.ref b, .int p1, .int p2] [(b, .inr (5, [.ref ro, .ref gr, .ref br, .int wr, .int ca])), (br, .inr (1, [.ref pl, .int z1, .int z2, .int z3])), (pl, .inl (cA 8, 19, .inr (.inr (.inr (.inr f)))))] [(a, .inr (0, [.int v]))] sz) (xQM (dC, dI) (va_A [(a, .inr (0, [.int v]))] sz) (fun r w1 => r = some (.int v) ∧ w1 = [(a, .inr (0, [.int p2]))])) 0 0 (va_A [(a, .inr (0, [.int v]))] sz) := by
  refine Met.ofW (cc := cX5_change) (maxL := 5) (ret := (some .int)) (by decide) rfl ?_
  intro p e s m args below meth c s₁ B hml hv
  obtain ⟨rfl, rfl, hb0, hPr, hP, hD0⟩ := hv
  have hx := B.exec
  have hb := B.bytes
  have hr := B.returns
  have hown : s.vm.findClass RX5 = some m.cls := findClass_of_methodNamed B.named
  have hlocks := B.notSynchronized
  have hK := h.K hb0
  have hS : va_S (va_A [(a, .inr (0, [.int v]))] s.heap.size) s.heap s.heap [] := va_S.rf
  obtain ⟨A, hAe, hD, hA, hz, hRo, hwk, hnR⟩ := xM_start hb0 hPr hP hD0
  rw [hAe] at hS ⊢
  have hl := lv_entry ([.ref b, .int p1, .int p2]) (n := 5) (Nat.le_of_ble_eq_true rfl)
  rw [lg_entry_eq]
  generalize (lg_sl ([.ref b, .int p1, .int p2]) ++ List.replicate (5 - (lg_sl ([.ref b, .int p1, .int p2])).length) Slot.unset).toArray = ls at hl ⊢
  have hl : lv_has ls 5 [(0, .ref b), (1, .int p1), (2, .int p2)] := hl
  refine lv_aload_n hx hb dX5_change_0 rfl (lv_at hl 0 rfl) ?_
  refine lv_iload_n hx hb dX5_change_1 rfl (lv_at hl 1 rfl) ?_
  refine xr_1 (va_runV (As := [.int p1]) (rest := []) ⟨hx, hb, hml, hown, xTs⟩ (c_boxAt h b gr br wr ca ro pl z1 z2 z3 p1 f a hm ht h0 h1 hi hf) ⟨xB (n := 1) (k_428 h hb0) (k_1 h hb0) (k_425 h hb0) (by decide) rfl rfl rfl (by decide) (by decide), (k_427 h hb0), (ks_2 h hb0)⟩ (xpV hb0 hS hz (va_P.sub (hRo _ _ hS) [0, 1, 2] rfl) (va_recv hK (hRo _ _ hS) (ci := 5) (q0 := 0) rfl rfl)) rfl rfl hl.1 rfl (lv_room (Nat.le_of_ble_eq_true rfl)) dX5_change_2 ⟨(Nat.le_of_ble_eq_true rfl), (Nat.le_of_ble_eq_true rfl)⟩) ?_
  refine lv_astore_n (lv' := [(3, .ref a), (0, .ref b), (1, .int p1), (2, .int p2)]) hx hb dX5_change_5 rfl hl (by decide) rfl (fun ls hl => ?_)
  refine lv_aload_n hx hb dX5_change_6 rfl (lv_at hl 0 rfl) ?_
  refine va_get (D := (dC, dI)) (ci := 0) (v := .int v) (C := RX0) (T := TX0) (N := 1) hx hb (ly_0 h hb0) (fun _ z => z) hown hK hP 0 rfl rfl 0 (by decide) (k_381 h hb0) (fun _ z => z) rfl dX5_change_7 ?_
  refine lv_istore (lv' := [(4, .int v), (3, .ref a), (0, .ref b), (1, .int p1), (2, .int p2)]) hx hb dX5_change_10 hl (by decide) rfl (fun ls hl => ?_)
  refine lv_aload_n hx hb dX5_change_12 rfl (lv_at hl 1 rfl) ?_
  refine lv_iload_n hx hb dX5_change_13 rfl (lv_at hl 4 rfl) ?_
  refine va_put (D := (dC, dI)) (ci := 0) (v := .int p2) (ty := .int) (C := RX0) (T := TX0) (N := 1) hx hb (ly_0 h hb0) (fun _ z => z) tyX0 tyX0_ok nmX0 hown hK hP hD hS 0 rfl rfl 0 (by decide) (k_381 h hb0) (fun _ z => z) rfl (by decide +kernel) rfl rfl (Nat.le_of_ble_eq_true rfl) dX5_change_14 (fun H locs hP hD hS => ?_)
  have hP : va_P (dC, dI) vwCl [(a, .inr (0, [.int p2]))] H := hP
  have hD : va_D A [(a, .inr (0, [.int p2]))] := hD
  refine lv_iload hx hb dX5_change_17 (lv_at hl 0 rfl) ?_
  exact W.iret hx hb hr (fun t ht _ => ⟨(some (.int v)), _, rfl, ⟨rfl, rfl⟩, by rw [ht]; exact hP, hD, hS.F ht⟩) (fun q z => hS.2.2 q z) dX5_change_19
set_option maxHeartbeats 4000000 in
set_option maxRecDepth 100000 in
theorem c_change_2 {l : Launch} {s0 : State} {a0 : Array Value} {dC : Nat → ClassId} {dI : Nat → Nat → Nat} {cA : Nat → ClassId} (h : xC l s0 a0 dC dI cA) (b gr br : Nat) (wr ca : Int32) (ro pl : Nat) (z1 z2 z3 p1 : Int32) (f : Nat → Option Nat) (p2 : Int32) (a : Nat) (v : Int32) (sz : Nat) (hm : z1 = 0 ∨ z1 = 1) (ht : ¬ z1 = 0) (h0 : ¬ p1 < 0) (h1 : p1 < z3) (hi : vp_in p1 19) (hf : f p1.toNatClampNeg = some a) : Met l yX5_change [Cond.code yX5_change cX5_change 5 (some .int)] ({ frames := 2, cells := 0, slots := 0, locals := 80 } : Room) (xPM s0 (dC, dI) [.ref b, .int p1, .int p2] [(b, .inr (5, [.ref ro, .ref gr, .ref br, .int wr, .int ca])), (br, .inr (1, [.ref pl, .int z1, .int z2, .int z3])), (pl, .inl (cA 8, 19, .inr (.inr (.inr (.inr f)))))] [(a, .inr (2, [.int v]))] sz) (xQM (dC, dI) (va_A [(a, .inr (2, [.int v]))] sz) (fun r w1 => r = some (.int v) ∧ w1 = [(a, .inr (2, [.int p2]))])) 0 0 (va_A [(a, .inr (2, [.int v]))] sz) := by
  refine Met.ofW (cc := cX5_change) (maxL := 5) (ret := (some .int)) (by decide) rfl ?_
  intro p e s m args below meth c s₁ B hml hv
  obtain ⟨rfl, rfl, hb0, hPr, hP, hD0⟩ := hv
  have hx := B.exec
  have hb := B.bytes
  have hr := B.returns
  have hown : s.vm.findClass RX5 = some m.cls := findClass_of_methodNamed B.named
  have hlocks := B.notSynchronized
  have hK := h.K hb0
  have hS : va_S (va_A [(a, .inr (2, [.int v]))] s.heap.size) s.heap s.heap [] := va_S.rf
  obtain ⟨A, hAe, hD, hA, hz, hRo, hwk, hnR⟩ := xM_start hb0 hPr hP hD0
  rw [hAe] at hS ⊢
  have hl := lv_entry ([.ref b, .int p1, .int p2]) (n := 5) (Nat.le_of_ble_eq_true rfl)
  rw [lg_entry_eq]
  generalize (lg_sl ([.ref b, .int p1, .int p2]) ++ List.replicate (5 - (lg_sl ([.ref b, .int p1, .int p2])).length) Slot.unset).toArray = ls at hl ⊢
  have hl : lv_has ls 5 [(0, .ref b), (1, .int p1), (2, .int p2)] := hl
  refine lv_aload_n hx hb dX5_change_0 rfl (lv_at hl 0 rfl) ?_
  refine lv_iload_n hx hb dX5_change_1 rfl (lv_at hl 1 rfl) ?_
  refine xr_1 (va_runV (As := [.int p1]) (rest := []) ⟨hx, hb, hml, hown, xTs⟩ (c_boxAt h b gr br wr ca ro pl z1 z2 z3 p1 f a hm ht h0 h1 hi hf) ⟨xB (n := 1) (k_428 h hb0) (k_1 h hb0) (k_425 h hb0) (by decide) rfl rfl rfl (by decide) (by decide), (k_427 h hb0), (ks_2 h hb0)⟩ (xpV hb0 hS hz (va_P.sub (hRo _ _ hS) [0, 1, 2] rfl) (va_recv hK (hRo _ _ hS) (ci := 5) (q0 := 0) rfl rfl)) rfl rfl hl.1 rfl (lv_room (Nat.le_of_ble_eq_true rfl)) dX5_change_2 ⟨(Nat.le_of_ble_eq_true rfl), (Nat.le_of_ble_eq_true rfl)⟩) ?_
  refine lv_astore_n (lv' := [(3, .ref a), (0, .ref b), (1, .int p1), (2, .int p2)]) hx hb dX5_change_5 rfl hl (by decide) rfl (fun ls hl => ?_)
  refine lv_aload_n hx hb dX5_change_6 rfl (lv_at hl 0 rfl) ?_
  refine va_get (D := (dC, dI)) (ci := 2) (v := .int v) (C := RX2) (T := TX2) (N := 1) hx hb (ly_2 h hb0) (fun _ z => z) hown hK hP 0 rfl rfl 0 (by decide) (k_381 h hb0) (fun _ z => z) rfl dX5_change_7 ?_
  refine lv_istore (lv' := [(4, .int v), (3, .ref a), (0, .ref b), (1, .int p1), (2, .int p2)]) hx hb dX5_change_10 hl (by decide) rfl (fun ls hl => ?_)
  refine lv_aload_n hx hb dX5_change_12 rfl (lv_at hl 1 rfl) ?_
  refine lv_iload_n hx hb dX5_change_13 rfl (lv_at hl 4 rfl) ?_
  refine va_put (D := (dC, dI)) (ci := 2) (v := .int p2) (ty := .int) (C := RX2) (T := TX2) (N := 1) hx hb (ly_2 h hb0) (fun _ z => z) tyX2 tyX2_ok nmX2 hown hK hP hD hS 0 rfl rfl 0 (by decide) (k_381 h hb0) (fun _ z => z) rfl (by decide +kernel) rfl rfl (Nat.le_of_ble_eq_true rfl) dX5_change_14 (fun H locs hP hD hS => ?_)
  have hP : va_P (dC, dI) vwCl [(a, .inr (2, [.int p2]))] H := hP
  have hD : va_D A [(a, .inr (2, [.int p2]))] := hD
  refine lv_iload hx hb dX5_change_17 (lv_at hl 0 rfl) ?_
  exact W.iret hx hb hr (fun t ht _ => ⟨(some (.int v)), _, rfl, ⟨rfl, rfl⟩, by rw [ht]; exact hP, hD, hS.F ht⟩) (fun q z => hS.2.2 q z) dX5_change_19
set_option maxHeartbeats 4000000 in
set_option maxRecDepth 100000 in
theorem t_weigh_N {l : Launch} {s0 : State} {a0 : Array Value} {dC : Nat → ClassId} {dI : Nat → Nat → Nat} {cA : Nat → ClassId} (h : xC l s0 a0 dC dI cA) (b gr br : Nat) (wr ca : Int32) (ro pl : Nat) (z1 z2 z3 p1 : Int32) (f : Nat → Option Nat) (p2 : Int32) (hm : z1 = 0 ∨ z1 = 1) (ht : z1 = 0) : xt_Met l yX5_weigh [Cond.code yX5_weigh cX5_weigh 3 (some .int)] ({ frames := 9, cells := 1, slots := 8, locals := 170 } : Room) (xP s0 (dC, dI) [.ref b, .int p1, .int p2] [(b, .inr (5, [.ref ro, .ref gr, .ref br, .int wr, .int ca])), (br, .inr (1, [.ref pl, .int z1, .int z2, .int z3])), (pl, .inl (cA 8, 19, .inr (.inr (.inr (.inr f)))))]) "java/lang/NullPointerException" 1 8 := by
  refine xt_ofW (cc := cX5_weigh) (maxL := 3) (ret := (some .int)) (by decide) rfl ?_
  intro p e s m args below meth c s₁ B hml hout hv
  obtain ⟨rfl, hb0, hP⟩ := hv
  have hx := B.exec
  have hb := B.bytes
  have hr := B.returns
  have hown : s.vm.findClass RX5 = some m.cls := findClass_of_methodNamed B.named
  have hlocks := B.notSynchronized
  have hK := h.K hb0
  have hS : va_S (fun _ : Nat => False) s.heap s.heap [] := va_S.rf
  have hz : ∀ q : Nat, (fun _ : Nat => False) q → s0.heap.size ≤ q := fun _ z => z.elim
  have hl := lv_entry ([.ref b, .int p1, .int p2]) (n := 3) (Nat.le_of_ble_eq_true rfl)
  rw [lg_entry_eq]
  generalize (lg_sl ([.ref b, .int p1, .int p2]) ++ List.replicate (3 - (lg_sl ([.ref b, .int p1, .int p2])).length) Slot.unset).toArray = ls at hl ⊢
  have hl : lv_has ls 3 [(0, .ref b), (1, .int p1), (2, .int p2)] := hl
  refine lv_aload_n hx hb dX5_weigh_0 rfl (lv_at hl 0 rfl) ?_
  refine lv_iload_n hx hb dX5_weigh_1 rfl (lv_at hl 1 rfl) ?_
  exact xt_callV (As := [.int p1]) (rest := []) ⟨hx, hb, hml, hown, xTs⟩ (t_boxAt_N h b gr br wr ca ro pl z1 z2 z3 p1 f hm ht) ⟨xB (n := 1) (k_428 h hb0) (k_1 h hb0) (k_425 h hb0) (by decide) rfl rfl rfl (by decide) (by decide), (k_427 h hb0), (ks_2 h hb0)⟩ (xpV hb0 hS hz (va_P.sub hP [0, 1, 2] rfl) (va_recv hK hP (ci := 5) (q0 := 0) rfl rfl)) rfl rfl hl.1 rfl (lv_room (Nat.le_of_ble_eq_true rfl)) dX5_weigh_2 ⟨(Nat.le_of_ble_eq_true rfl), (Nat.le_of_ble_eq_true rfl)⟩ (fun q ce H1 h1 h2 h3 h4 h5 => xt_out hout hlocks h1 h2 h3 (Nat.le_of_ble_eq_true rfl) (Nat.le_of_ble_eq_true rfl))
set_option maxHeartbeats 4000000 in
set_option maxRecDepth 100000 in
theorem t_weigh_A {l : Launch} {s0 : State} {a0 : Array Value} {dC : Nat → ClassId} {dI : Nat → Nat → Nat} {cA : Nat → ClassId} (h : xC l s0 a0 dC dI cA) (b gr br : Nat) (wr ca : Int32) (ro pl : Nat) (z1 z2 z3 p1 : Int32) (f : Nat → Option Nat) (p2 : Int32) (hm : z1 = 0 ∨ z1 = 1) (ht : ¬ z1 = 0) (hc : p1 < 0 ∨ ¬ p1 < z3) : xt_Met l yX5_weigh [Cond.code yX5_weigh cX5_weigh 3 (some .int)] ({ frames := 9, cells := 1, slots := 8, locals := 170 } : Room) (xP s0 (dC, dI) [.ref b, .int p1, .int p2] [(b, .inr (5, [.ref ro, .ref gr, .ref br, .int wr, .int ca])), (br, .inr (1, [.ref pl, .int z1, .int z2, .int z3])), (pl, .inl (cA 8, 19, .inr (.inr (.inr (.inr f)))))]) "java/lang/ArrayIndexOutOfBoundsException" 1 8 := by
  refine xt_ofW (cc := cX5_weigh) (maxL := 3) (ret := (some .int)) (by decide) rfl ?_
  intro p e s m args below meth c s₁ B hml hout hv
  obtain ⟨rfl, hb0, hP⟩ := hv
  have hx := B.exec
  have hb := B.bytes
  have hr := B.returns
  have hown : s.vm.findClass RX5 = some m.cls := findClass_of_methodNamed B.named
  have hlocks := B.notSynchronized
  have hK := h.K hb0
  have hS : va_S (fun _ : Nat => False) s.heap s.heap [] := va_S.rf
  have hz : ∀ q : Nat, (fun _ : Nat => False) q → s0.heap.size ≤ q := fun _ z => z.elim
  have hl := lv_entry ([.ref b, .int p1, .int p2]) (n := 3) (Nat.le_of_ble_eq_true rfl)
  rw [lg_entry_eq]
  generalize (lg_sl ([.ref b, .int p1, .int p2]) ++ List.replicate (3 - (lg_sl ([.ref b, .int p1, .int p2])).length) Slot.unset).toArray = ls at hl ⊢
  have hl : lv_has ls 3 [(0, .ref b), (1, .int p1), (2, .int p2)] := hl
  refine lv_aload_n hx hb dX5_weigh_0 rfl (lv_at hl 0 rfl) ?_
  refine lv_iload_n hx hb dX5_weigh_1 rfl (lv_at hl 1 rfl) ?_
  exact xt_callV (As := [.int p1]) (rest := []) ⟨hx, hb, hml, hown, xTs⟩ (t_boxAt_A h b gr br wr ca ro pl z1 z2 z3 p1 f hm ht hc) ⟨xB (n := 1) (k_428 h hb0) (k_1 h hb0) (k_425 h hb0) (by decide) rfl rfl rfl (by decide) (by decide), (k_427 h hb0), (ks_2 h hb0)⟩ (xpV hb0 hS hz (va_P.sub hP [0, 1, 2] rfl) (va_recv hK hP (ci := 5) (q0 := 0) rfl rfl)) rfl rfl hl.1 rfl (lv_room (Nat.le_of_ble_eq_true rfl)) dX5_weigh_2 ⟨(Nat.le_of_ble_eq_true rfl), (Nat.le_of_ble_eq_true rfl)⟩ (fun q ce H1 h1 h2 h3 h4 h5 => xt_out hout hlocks h1 h2 h3 (Nat.le_of_ble_eq_true rfl) (Nat.le_of_ble_eq_true rfl))
set_option maxHeartbeats 4000000 in
set_option maxRecDepth 100000 in
theorem t_weigh_2 {l : Launch} {s0 : State} {a0 : Array Value} {dC : Nat → ClassId} {dI : Nat → Nat → Nat} {cA : Nat → ClassId} (h : xC l s0 a0 dC dI cA) (b gr br : Nat) (wr ca : Int32) (ro pl : Nat) (z1 z2 z3 p1 : Int32) (f : Nat → Option Nat) (p2 : Int32) (hm : z1 = 0 ∨ z1 = 1) (ht : ¬ z1 = 0) (h0 : ¬ p1 < 0) (h1 : p1 < z3) (hi : vp_in p1 19) (hf : f p1.toNatClampNeg = none) : xt_Met l yX5_weigh [Cond.code yX5_weigh cX5_weigh 3 (some .int)] ({ frames := 9, cells := 1, slots := 8, locals := 170 } : Room) (xP s0 (dC, dI) [.ref b, .int p1, .int p2] [(b, .inr (5, [.ref ro, .ref gr, .ref br, .int wr, .int ca])), (br, .inr (1, [.ref pl, .int z1, .int z2, .int z3])), (pl, .inl (cA 8, 19, .inr (.inr (.inr (.inr f)))))]) "java/lang/NullPointerException" 1 8 := by
  refine xt_ofW (cc := cX5_weigh) (maxL := 3) (ret := (some .int)) (by decide) rfl ?_
  intro p e s m args below meth c s₁ B hml hout hv
  obtain ⟨rfl, hb0, hP⟩ := hv
  have hx := B.exec
  have hb := B.bytes
  have hr := B.returns
  have hown : s.vm.findClass RX5 = some m.cls := findClass_of_methodNamed B.named
  have hlocks := B.notSynchronized
  have hK := h.K hb0
  have hS : va_S (fun _ : Nat => False) s.heap s.heap [] := va_S.rf
  have hz : ∀ q : Nat, (fun _ : Nat => False) q → s0.heap.size ≤ q := fun _ z => z.elim
  have hl := lv_entry ([.ref b, .int p1, .int p2]) (n := 3) (Nat.le_of_ble_eq_true rfl)
  rw [lg_entry_eq]
  generalize (lg_sl ([.ref b, .int p1, .int p2]) ++ List.replicate (3 - (lg_sl ([.ref b, .int p1, .int p2])).length) Slot.unset).toArray = ls at hl ⊢
  have hl : lv_has ls 3 [(0, .ref b), (1, .int p1), (2, .int p2)] := hl
  refine lv_aload_n hx hb dX5_weigh_0 rfl (lv_at hl 0 rfl) ?_
  refine lv_iload_n hx hb dX5_weigh_1 rfl (lv_at hl 1 rfl) ?_
  exact xt_callV (As := [.int p1]) (rest := []) ⟨hx, hb, hml, hown, xTs⟩ (t_boxAt_2 h b gr br wr ca ro pl z1 z2 z3 p1 f hm ht h0 h1 hi hf) ⟨xB (n := 1) (k_428 h hb0) (k_1 h hb0) (k_425 h hb0) (by decide) rfl rfl rfl (by decide) (by decide), (k_427 h hb0), (ks_2 h hb0)⟩ (xpV hb0 hS hz (va_P.sub hP [0, 1, 2] rfl) (va_recv hK hP (ci := 5) (q0 := 0) rfl rfl)) rfl rfl hl.1 rfl (lv_room (Nat.le_of_ble_eq_true rfl)) dX5_weigh_2 ⟨(Nat.le_of_ble_eq_true rfl), (Nat.le_of_ble_eq_true rfl)⟩ (fun q ce H1 h1 h2 h3 h4 h5 => xt_out hout hlocks h1 h2 h3 (Nat.le_of_ble_eq_true rfl) (Nat.le_of_ble_eq_true rfl))
set_option maxHeartbeats 4000000 in
set_option maxRecDepth 100000 in
theorem c_weigh_0 {l : Launch} {s0 : State} {a0 : Array Value} {dC : Nat → ClassId} {dI : Nat → Nat → Nat} {cA : Nat → ClassId} (h : xC l s0 a0 dC dI cA) (b gr br : Nat) (wr ca : Int32) (ro pl : Nat) (z1 z2 z3 p1 : Int32) (f : Nat → Option Nat) (p2 : Int32) (a : Nat) (v : Int32) (hm : z1 = 0 ∨ z1 = 1) (ht : ¬ z1 = 0) (h0 : ¬ p1 < 0) (h1 : p1 < z3) (hi : vp_in p1 19) (hf : f p1.toNatClampNeg = some a) : Met l yX5_weigh [Cond.code yX5_weigh cX5_weigh 3 (some .int)] ({ frames := 2, cells := 0, slots := 0, locals := 80 } : Room) (xP s0 (dC, dI) [.ref b, .int p1, .int p2] [(b, .inr (5, [.ref ro, .ref gr, .ref br, .int wr, .int ca])), (br, .inr (1, [.ref pl, .int z1, .int z2, .int z3])), (pl, .inl (cA 8, 19, .inr (.inr (.inr (.inr f))))), (a, .inr (0, [.int v]))]) (xR (some (.int (v * 3 + p2)))) 0 0 (fun _ => False) := by
  refine Met.ofW (cc := cX5_weigh) (maxL := 3) (ret := (some .int)) (by decide) rfl ?_
  intro p e s m args below meth c s₁ B hml hv
  obtain ⟨rfl, hb0, hP⟩ := hv
  have hx := B.exec
  have hb := B.bytes
  have hr := B.returns
  have hown : s.vm.findClass RX5 = some m.cls := findClass_of_methodNamed B.named
  have hlocks := B.notSynchronized
  have hK := h.K hb0
  have hS : va_S (fun _ : Nat => False) s.heap s.heap [] := va_S.rf
  have hz : ∀ q : Nat, (fun _ : Nat => False) q → s0.heap.size ≤ q := fun _ z => z.elim
  have hl := lv_entry ([.ref b, .int p1, .int p2]) (n := 3) (Nat.le_of_ble_eq_true rfl)
  rw [lg_entry_eq]
  generalize (lg_sl ([.ref b, .int p1, .int p2]) ++ List.replicate (3 - (lg_sl ([.ref b, .int p1, .int p2])).length) Slot.unset).toArray = ls at hl ⊢
  have hl : lv_has ls 3 [(0, .ref b), (1, .int p1), (2, .int p2)] := hl
  refine lv_aload_n hx hb dX5_weigh_0 rfl (lv_at hl 0 rfl) ?_
  refine lv_iload_n hx hb dX5_weigh_1 rfl (lv_at hl 1 rfl) ?_
  refine xr_1 (va_runV (As := [.int p1]) (rest := []) ⟨hx, hb, hml, hown, xTs⟩ (c_boxAt h b gr br wr ca ro pl z1 z2 z3 p1 f a hm ht h0 h1 hi hf) ⟨xB (n := 1) (k_428 h hb0) (k_1 h hb0) (k_425 h hb0) (by decide) rfl rfl rfl (by decide) (by decide), (k_427 h hb0), (ks_2 h hb0)⟩ (xpV hb0 hS hz (va_P.sub hP [0, 1, 2] rfl) (va_recv hK hP (ci := 5) (q0 := 0) rfl rfl)) rfl rfl hl.1 rfl (lv_room (Nat.le_of_ble_eq_true rfl)) dX5_weigh_2 ⟨(Nat.le_of_ble_eq_true rfl), (Nat.le_of_ble_eq_true rfl)⟩) ?_
  refine lv_iload_n hx hb dX5_weigh_5 rfl (lv_at hl 2 rfl) ?_
  refine xr_1 (va_runV (As := [.int p2]) (rest := []) ⟨hx, hb, hml, hown, xTs⟩ (c_weightBox h a v p2) ⟨xB (n := 1) (k_455 h hb0) (k_13 h hb0) (k_448 h hb0) (by decide) rfl rfl rfl (by decide) (by decide), (k_449 h hb0), (k_450 h hb0)⟩ (xpV hb0 hS hz (va_P.sub hP [3] rfl) (va_recv hK hP (ci := 0) (q0 := 3) rfl rfl)) rfl rfl hl.1 rfl (lv_room (Nat.le_of_ble_eq_true rfl)) dX5_weigh_6 ⟨(Nat.le_of_ble_eq_true rfl), (Nat.le_of_ble_eq_true rfl)⟩) ?_
  exact W.iret hx hb hr (fun t ht _ => ⟨rfl, ht⟩) (fun q z => nomatch z) dX5_weigh_9
set_option maxHeartbeats 4000000 in
set_option maxRecDepth 100000 in
theorem t_roll_N {l : Launch} {s0 : State} {a0 : Array Value} {dC : Nat → ClassId} {dI : Nat → Nat → Nat} {cA : Nat → ClassId} (h : xC l s0 a0 dC dI cA) (b gr br : Nat) (wr ca : Int32) (ro pl : Nat) (z1 z2 z3 p1 : Int32) (f : Nat → Option Nat) (p2 : Int32) (hm : z1 = 0 ∨ z1 = 1) (ht : z1 = 0) : xt_Met l yX5_roll [Cond.code yX5_roll cX5_roll 5 (some .int)] ({ frames := 9, cells := 1, slots := 8, locals := 170 } : Room) (xP s0 (dC, dI) [.ref b, .int p1, .int p2] [(b, .inr (5, [.ref ro, .ref gr, .ref br, .int wr, .int ca])), (br, .inr (1, [.ref pl, .int z1, .int z2, .int z3])), (pl, .inl (cA 8, 19, .inr (.inr (.inr (.inr f)))))]) "java/lang/NullPointerException" 1 8 := by
  refine xt_ofW (cc := cX5_roll) (maxL := 5) (ret := (some .int)) (by decide) rfl ?_
  intro p e s m args below meth c s₁ B hml hout hv
  obtain ⟨rfl, hb0, hP⟩ := hv
  have hx := B.exec
  have hb := B.bytes
  have hr := B.returns
  have hown : s.vm.findClass RX5 = some m.cls := findClass_of_methodNamed B.named
  have hlocks := B.notSynchronized
  have hK := h.K hb0
  have hS : va_S (fun _ : Nat => False) s.heap s.heap [] := va_S.rf
  have hz : ∀ q : Nat, (fun _ : Nat => False) q → s0.heap.size ≤ q := fun _ z => z.elim
  have hl := lv_entry ([.ref b, .int p1, .int p2]) (n := 5) (Nat.le_of_ble_eq_true rfl)
  rw [lg_entry_eq]
  generalize (lg_sl ([.ref b, .int p1, .int p2]) ++ List.replicate (5 - (lg_sl ([.ref b, .int p1, .int p2])).length) Slot.unset).toArray = ls at hl ⊢
  have hl : lv_has ls 5 [(0, .ref b), (1, .int p1), (2, .int p2)] := hl
  refine lv_aload_n hx hb dX5_roll_0 rfl (lv_at hl 0 rfl) ?_
  refine lv_iload_n hx hb dX5_roll_1 rfl (lv_at hl 1 rfl) ?_
  exact xt_callV (As := [.int p1]) (rest := []) ⟨hx, hb, hml, hown, xTs⟩ (t_boxAt_N h b gr br wr ca ro pl z1 z2 z3 p1 f hm ht) ⟨xB (n := 1) (k_428 h hb0) (k_1 h hb0) (k_425 h hb0) (by decide) rfl rfl rfl (by decide) (by decide), (k_427 h hb0), (ks_2 h hb0)⟩ (xpV hb0 hS hz (va_P.sub hP [0, 1, 2] rfl) (va_recv hK hP (ci := 5) (q0 := 0) rfl rfl)) rfl rfl hl.1 rfl (lv_room (Nat.le_of_ble_eq_true rfl)) dX5_roll_2 ⟨(Nat.le_of_ble_eq_true rfl), (Nat.le_of_ble_eq_true rfl)⟩ (fun q ce H1 h1 h2 h3 h4 h5 => xt_out hout hlocks h1 h2 h3 (Nat.le_of_ble_eq_true rfl) (Nat.le_of_ble_eq_true rfl))
set_option maxHeartbeats 4000000 in
set_option maxRecDepth 100000 in
theorem t_roll_A {l : Launch} {s0 : State} {a0 : Array Value} {dC : Nat → ClassId} {dI : Nat → Nat → Nat} {cA : Nat → ClassId} (h : xC l s0 a0 dC dI cA) (b gr br : Nat) (wr ca : Int32) (ro pl : Nat) (z1 z2 z3 p1 : Int32) (f : Nat → Option Nat) (p2 : Int32) (hm : z1 = 0 ∨ z1 = 1) (ht : ¬ z1 = 0) (hc : p1 < 0 ∨ ¬ p1 < z3) : xt_Met l yX5_roll [Cond.code yX5_roll cX5_roll 5 (some .int)] ({ frames := 9, cells := 1, slots := 8, locals := 170 } : Room) (xP s0 (dC, dI) [.ref b, .int p1, .int p2] [(b, .inr (5, [.ref ro, .ref gr, .ref br, .int wr, .int ca])), (br, .inr (1, [.ref pl, .int z1, .int z2, .int z3])), (pl, .inl (cA 8, 19, .inr (.inr (.inr (.inr f)))))]) "java/lang/ArrayIndexOutOfBoundsException" 1 8 := by
  refine xt_ofW (cc := cX5_roll) (maxL := 5) (ret := (some .int)) (by decide) rfl ?_
  intro p e s m args below meth c s₁ B hml hout hv
  obtain ⟨rfl, hb0, hP⟩ := hv
  have hx := B.exec
  have hb := B.bytes
  have hr := B.returns
  have hown : s.vm.findClass RX5 = some m.cls := findClass_of_methodNamed B.named
  have hlocks := B.notSynchronized
  have hK := h.K hb0
  have hS : va_S (fun _ : Nat => False) s.heap s.heap [] := va_S.rf
  have hz : ∀ q : Nat, (fun _ : Nat => False) q → s0.heap.size ≤ q := fun _ z => z.elim
  have hl := lv_entry ([.ref b, .int p1, .int p2]) (n := 5) (Nat.le_of_ble_eq_true rfl)
  rw [lg_entry_eq]
  generalize (lg_sl ([.ref b, .int p1, .int p2]) ++ List.replicate (5 - (lg_sl ([.ref b, .int p1, .int p2])).length) Slot.unset).toArray = ls at hl ⊢
  have hl : lv_has ls 5 [(0, .ref b), (1, .int p1), (2, .int p2)] := hl
  refine lv_aload_n hx hb dX5_roll_0 rfl (lv_at hl 0 rfl) ?_
  refine lv_iload_n hx hb dX5_roll_1 rfl (lv_at hl 1 rfl) ?_
  exact xt_callV (As := [.int p1]) (rest := []) ⟨hx, hb, hml, hown, xTs⟩ (t_boxAt_A h b gr br wr ca ro pl z1 z2 z3 p1 f hm ht hc) ⟨xB (n := 1) (k_428 h hb0) (k_1 h hb0) (k_425 h hb0) (by decide) rfl rfl rfl (by decide) (by decide), (k_427 h hb0), (ks_2 h hb0)⟩ (xpV hb0 hS hz (va_P.sub hP [0, 1, 2] rfl) (va_recv hK hP (ci := 5) (q0 := 0) rfl rfl)) rfl rfl hl.1 rfl (lv_room (Nat.le_of_ble_eq_true rfl)) dX5_roll_2 ⟨(Nat.le_of_ble_eq_true rfl), (Nat.le_of_ble_eq_true rfl)⟩ (fun q ce H1 h1 h2 h3 h4 h5 => xt_out hout hlocks h1 h2 h3 (Nat.le_of_ble_eq_true rfl) (Nat.le_of_ble_eq_true rfl))
set_option maxHeartbeats 4000000 in
set_option maxRecDepth 100000 in
theorem t_roll_2 {l : Launch} {s0 : State} {a0 : Array Value} {dC : Nat → ClassId} {dI : Nat → Nat → Nat} {cA : Nat → ClassId} (h : xC l s0 a0 dC dI cA) (b gr br : Nat) (wr ca : Int32) (ro pl : Nat) (z1 z2 z3 p1 : Int32) (f : Nat → Option Nat) (p2 : Int32) (hm : z1 = 0 ∨ z1 = 1) (ht : ¬ z1 = 0) (h0 : ¬ p1 < 0) (h1 : p1 < z3) (hi : vp_in p1 19) (hf : f p1.toNatClampNeg = none) : xt_Met l yX5_roll [Cond.code yX5_roll cX5_roll 5 (some .int)] ({ frames := 9, cells := 1, slots := 8, locals := 170 } : Room) (xP s0 (dC, dI) [.ref b, .int p1, .int p2] [(b, .inr (5, [.ref ro, .ref gr, .ref br, .int wr, .int ca])), (br, .inr (1, [.ref pl, .int z1, .int z2, .int z3])), (pl, .inl (cA 8, 19, .inr (.inr (.inr (.inr f)))))]) "java/lang/NullPointerException" 1 8 := by
  refine xt_ofW (cc := cX5_roll) (maxL := 5) (ret := (some .int)) (by decide) rfl ?_
  intro p e s m args below meth c s₁ B hml hout hv
  obtain ⟨rfl, hb0, hP⟩ := hv
  have hx := B.exec
  have hb := B.bytes
  have hr := B.returns
  have hown : s.vm.findClass RX5 = some m.cls := findClass_of_methodNamed B.named
  have hlocks := B.notSynchronized
  have hK := h.K hb0
  have hS : va_S (fun _ : Nat => False) s.heap s.heap [] := va_S.rf
  have hz : ∀ q : Nat, (fun _ : Nat => False) q → s0.heap.size ≤ q := fun _ z => z.elim
  have hl := lv_entry ([.ref b, .int p1, .int p2]) (n := 5) (Nat.le_of_ble_eq_true rfl)
  rw [lg_entry_eq]
  generalize (lg_sl ([.ref b, .int p1, .int p2]) ++ List.replicate (5 - (lg_sl ([.ref b, .int p1, .int p2])).length) Slot.unset).toArray = ls at hl ⊢
  have hl : lv_has ls 5 [(0, .ref b), (1, .int p1), (2, .int p2)] := hl
  refine lv_aload_n hx hb dX5_roll_0 rfl (lv_at hl 0 rfl) ?_
  refine lv_iload_n hx hb dX5_roll_1 rfl (lv_at hl 1 rfl) ?_
  exact xt_callV (As := [.int p1]) (rest := []) ⟨hx, hb, hml, hown, xTs⟩ (t_boxAt_2 h b gr br wr ca ro pl z1 z2 z3 p1 f hm ht h0 h1 hi hf) ⟨xB (n := 1) (k_428 h hb0) (k_1 h hb0) (k_425 h hb0) (by decide) rfl rfl rfl (by decide) (by decide), (k_427 h hb0), (ks_2 h hb0)⟩ (xpV hb0 hS hz (va_P.sub hP [0, 1, 2] rfl) (va_recv hK hP (ci := 5) (q0 := 0) rfl rfl)) rfl rfl hl.1 rfl (lv_room (Nat.le_of_ble_eq_true rfl)) dX5_roll_2 ⟨(Nat.le_of_ble_eq_true rfl), (Nat.le_of_ble_eq_true rfl)⟩ (fun q ce H1 h1 h2 h3 h4 h5 => xt_out hout hlocks h1 h2 h3 (Nat.le_of_ble_eq_true rfl) (Nat.le_of_ble_eq_true rfl))
set_option maxHeartbeats 4000000 in
set_option maxRecDepth 100000 in
theorem c_roll_2 {l : Launch} {s0 : State} {a0 : Array Value} {dC : Nat → ClassId} {dI : Nat → Nat → Nat} {cA : Nat → ClassId} (h : xC l s0 a0 dC dI cA) (b gr br : Nat) (wr ca : Int32) (ro pl : Nat) (z1 z2 z3 p1 : Int32) (f : Nat → Option Nat) (p2 : Int32) (a : Nat) (v : Int32) (hm : z1 = 0 ∨ z1 = 1) (ht : ¬ z1 = 0) (h0 : ¬ p1 < 0) (h1 : p1 < z3) (hi : vp_in p1 19) (hf : f p1.toNatClampNeg = some a) : Met l yX5_roll [Cond.code yX5_roll cX5_roll 5 (some .int)] ({ frames := 2, cells := 0, slots := 0, locals := 80 } : Room) (xP s0 (dC, dI) [.ref b, .int p1, .int p2] [(b, .inr (5, [.ref ro, .ref gr, .ref br, .int wr, .int ca])), (br, .inr (1, [.ref pl, .int z1, .int z2, .int z3])), (pl, .inl (cA 8, 19, .inr (.inr (.inr (.inr f))))), (a, .inr (2, [.int v]))]) (xR (some (.int (v ^^^ p2)))) 0 0 (fun _ => False) := by
  refine Met.ofW (cc := cX5_roll) (maxL := 5) (ret := (some .int)) (by decide) rfl ?_
  intro p e s m args below meth c s₁ B hml hv
  obtain ⟨rfl, hb0, hP⟩ := hv
  have hx := B.exec
  have hb := B.bytes
  have hr := B.returns
  have hown : s.vm.findClass RX5 = some m.cls := findClass_of_methodNamed B.named
  have hlocks := B.notSynchronized
  have hK := h.K hb0
  have hS : va_S (fun _ : Nat => False) s.heap s.heap [] := va_S.rf
  have hz : ∀ q : Nat, (fun _ : Nat => False) q → s0.heap.size ≤ q := fun _ z => z.elim
  have hl := lv_entry ([.ref b, .int p1, .int p2]) (n := 5) (Nat.le_of_ble_eq_true rfl)
  rw [lg_entry_eq]
  generalize (lg_sl ([.ref b, .int p1, .int p2]) ++ List.replicate (5 - (lg_sl ([.ref b, .int p1, .int p2])).length) Slot.unset).toArray = ls at hl ⊢
  have hl : lv_has ls 5 [(0, .ref b), (1, .int p1), (2, .int p2)] := hl
  refine lv_aload_n hx hb dX5_roll_0 rfl (lv_at hl 0 rfl) ?_
  refine lv_iload_n hx hb dX5_roll_1 rfl (lv_at hl 1 rfl) ?_
  refine xr_1 (va_runV (As := [.int p1]) (rest := []) ⟨hx, hb, hml, hown, xTs⟩ (c_boxAt h b gr br wr ca ro pl z1 z2 z3 p1 f a hm ht h0 h1 hi hf) ⟨xB (n := 1) (k_428 h hb0) (k_1 h hb0) (k_425 h hb0) (by decide) rfl rfl rfl (by decide) (by decide), (k_427 h hb0), (ks_2 h hb0)⟩ (xpV hb0 hS hz (va_P.sub hP [0, 1, 2] rfl) (va_recv hK hP (ci := 5) (q0 := 0) rfl rfl)) rfl rfl hl.1 rfl (lv_room (Nat.le_of_ble_eq_true rfl)) dX5_roll_2 ⟨(Nat.le_of_ble_eq_true rfl), (Nat.le_of_ble_eq_true rfl)⟩) ?_
  refine lv_astore_n (lv' := [(3, .ref a), (0, .ref b), (1, .int p1), (2, .int p2)]) hx hb dX5_roll_5 rfl hl (by decide) rfl (fun ls hl => ?_)
  refine lv_aload_n hx hb dX5_roll_6 rfl (lv_at hl 0 rfl) ?_
  refine va_instY (C := RX2) hx hb hown (k_385 h hb0) (k_655 h hb0) (va_recv hK hP (ci := 2) (q0 := 3) rfl rfl) dX5_roll_7 ?_
  refine lv_if_eq (tgt := 26) hx hb dX5_roll_10 (by decide) (fun c_1 => ?_) (fun c_1 => ?_)
  · exact absurd c_1 (by decide)
  · refine lv_aload_n hx hb dX5_roll_13 rfl (lv_at hl 0 rfl) ?_
    refine va_castY (C := RX2) hx hb hown (k_385 h hb0) (k_655 h hb0) (va_recv hK hP (ci := 2) (q0 := 3) rfl rfl) dX5_roll_14 ?_
    refine lv_astore (lv' := [(4, .ref a), (3, .ref a), (0, .ref b), (1, .int p1), (2, .int p2)]) hx hb dX5_roll_17 hl (by decide) rfl (fun ls hl => ?_)
    refine lv_aload hx hb dX5_roll_19 (lv_at hl 0 rfl) ?_
    refine lv_iload_n hx hb dX5_roll_21 rfl (lv_at hl 4 rfl) ?_
    refine xr_1 (va_runV (As := [.int p2]) (rest := []) ⟨hx, hb, hml, hown, xTs⟩ (c_rolled h a v p2) ⟨xB (n := 1) (k_467 h hb0) (k_14 h hb0) (k_464 h hb0) (by decide) rfl rfl rfl (by decide) (by decide), (k_465 h hb0), (k_466 h hb0)⟩ (xpV hb0 hS hz (va_P.sub hP [3] rfl) (va_recv hK hP (ci := 2) (q0 := 3) rfl rfl)) rfl rfl hl.1 rfl (lv_room (Nat.le_of_ble_eq_true rfl)) dX5_roll_22 ⟨(Nat.le_of_ble_eq_true rfl), (Nat.le_of_ble_eq_true rfl)⟩) ?_
    exact W.iret hx hb hr (fun t ht _ => ⟨rfl, ht⟩) (fun q z => nomatch z) dX5_roll_25
set_option maxHeartbeats 4000000 in
set_option maxRecDepth 100000 in
theorem t_roll_C {l : Launch} {s0 : State} {a0 : Array Value} {dC : Nat → ClassId} {dI : Nat → Nat → Nat} {cA : Nat → ClassId} (h : xC l s0 a0 dC dI cA) (b gr br : Nat) (wr ca : Int32) (ro pl : Nat) (z1 z2 z3 p1 : Int32) (f : Nat → Option Nat) (p2 : Int32) (a : Nat) (v : Int32) (hm : z1 = 0 ∨ z1 = 1) (ht : ¬ z1 = 0) (h0 : ¬ p1 < 0) (h1 : p1 < z3) (hi : vp_in p1 19) (hf : f p1.toNatClampNeg = some a) : xt_Met l yX5_roll [Cond.code yX5_roll cX5_roll 5 (some .int)] ({ frames := 9, cells := 1, slots := 8, locals := 170 } : Room) (xP s0 (dC, dI) [.ref b, .int p1, .int p2] [(b, .inr (5, [.ref ro, .ref gr, .ref br, .int wr, .int ca])), (br, .inr (1, [.ref pl, .int z1, .int z2, .int z3])), (pl, .inl (cA 8, 19, .inr (.inr (.inr (.inr f))))), (a, .inr (0, [.int v]))]) "java/lang/ClassCastException" 1 8 := by
  refine xt_ofW (cc := cX5_roll) (maxL := 5) (ret := (some .int)) (by decide) rfl ?_
  intro p e s m args below meth c s₁ B hml hout hv
  obtain ⟨rfl, hb0, hP⟩ := hv
  have hx := B.exec
  have hb := B.bytes
  have hr := B.returns
  have hown : s.vm.findClass RX5 = some m.cls := findClass_of_methodNamed B.named
  have hlocks := B.notSynchronized
  have hK := h.K hb0
  have hS : va_S (fun _ : Nat => False) s.heap s.heap [] := va_S.rf
  have hz : ∀ q : Nat, (fun _ : Nat => False) q → s0.heap.size ≤ q := fun _ z => z.elim
  have hl := lv_entry ([.ref b, .int p1, .int p2]) (n := 5) (Nat.le_of_ble_eq_true rfl)
  rw [lg_entry_eq]
  generalize (lg_sl ([.ref b, .int p1, .int p2]) ++ List.replicate (5 - (lg_sl ([.ref b, .int p1, .int p2])).length) Slot.unset).toArray = ls at hl ⊢
  have hl : lv_has ls 5 [(0, .ref b), (1, .int p1), (2, .int p2)] := hl
  refine lv_aload_n hx hb dX5_roll_0 rfl (lv_at hl 0 rfl) ?_
  refine lv_iload_n hx hb dX5_roll_1 rfl (lv_at hl 1 rfl) ?_
  refine xr_1 (va_runV (As := [.int p1]) (rest := []) ⟨hx, hb, hml, hown, xTs⟩ (c_boxAt h b gr br wr ca ro pl z1 z2 z3 p1 f a hm ht h0 h1 hi hf) ⟨xB (n := 1) (k_428 h hb0) (k_1 h hb0) (k_425 h hb0) (by decide) rfl rfl rfl (by decide) (by decide), (k_427 h hb0), (ks_2 h hb0)⟩ (xpV hb0 hS hz (va_P.sub hP [0, 1, 2] rfl) (va_recv hK hP (ci := 5) (q0 := 0) rfl rfl)) rfl rfl hl.1 rfl (lv_room (Nat.le_of_ble_eq_true rfl)) dX5_roll_2 ⟨(Nat.le_of_ble_eq_true rfl), (Nat.le_of_ble_eq_true rfl)⟩) ?_
  refine lv_astore_n (lv' := [(3, .ref a), (0, .ref b), (1, .int p1), (2, .int p2)]) hx hb dX5_roll_5 rfl hl (by decide) rfl (fun ls hl => ?_)
  refine lv_aload_n hx hb dX5_roll_6 rfl (lv_at hl 0 rfl) ?_
  refine va_instNo (C := RX0) hx hb hown (k_385 h hb0) (xNoDisc h hb0) (va_recv hK hP (ci := 0) (q0 := 3) rfl rfl) dX5_roll_7 ?_
  refine lv_if_eq (tgt := 26) hx hb dX5_roll_10 (by decide) (fun c_1 => ?_) (fun c_1 => ?_)
  · exact xt_throwS (own := RX5) (names := ["java/lang/RuntimeException", "java/lang/Exception"]) hx hb h.1 hown (by decide) (by decide) (k_468 h hb0) (k_16 h hb0) (k_407 h hb0) (xo_126 h hb0) (hl.1.trans hml.symm) hout hlocks dX5_roll_26 dX5_roll_29 dX5_roll_30 dX5_roll_32 dX5_roll_35 (by decide) (by decide) (by decide) (by decide) (by decide) (by decide)
  · exact absurd rfl c_1
theorem xI64z {x : Int32} (h : x.toInt64 = 0) : x = 0 := by
  have h1 : x.toInt64.toInt = 0 := by rw [h]; rfl
  rw [Int32.toInt_toInt64] at h1
  exact Int32.toInt_inj.mp h1
set_option maxHeartbeats 4000000 in
set_option maxRecDepth 100000 in
theorem c_divide {l : Launch} {s0 : State} {a0 : Array Value} {dC : Nat → ClassId} {dI : Nat → Nat → Nat} {cA : Nat → ClassId} (h : xC l s0 a0 dC dI cA) (b : Nat) (p1 p2 : Int32) (p3 : Int32) (hc : ¬ p2 = 0) : Met l yX5_divide [Cond.code yX5_divide cX5_divide 4 (some .int)] ({ frames := 1, cells := 0, slots := 0, locals := 40 } : Room) (xP s0 (dC, dI) [.ref b, .int p1, .int p2, .int p3] []) (xR (some (.int (if p3 = 0 then p1 / p2 else p1 - p1 / p2 * p2)))) 0 0 (fun _ => False) := by
  refine Met.ofW (cc := cX5_divide) (maxL := 4) (ret := (some .int)) (by decide) rfl ?_
  intro p e s m args below meth c s₁ B hml hv
  obtain ⟨rfl, hb0, hP⟩ := hv
  have hx := B.exec
  have hb := B.bytes
  have hr := B.returns
  have hown : s.vm.findClass RX5 = some m.cls := findClass_of_methodNamed B.named
  have hlocks := B.notSynchronized
  have hK := h.K hb0
  have hS : va_S (fun _ : Nat => False) s.heap s.heap [] := va_S.rf
  have hz : ∀ q : Nat, (fun _ : Nat => False) q → s0.heap.size ≤ q := fun _ z => z.elim
  have hl := lv_entry ([.ref b, .int p1, .int p2, .int p3]) (n := 4) (Nat.le_of_ble_eq_true rfl)
  rw [lg_entry_eq]
  generalize (lg_sl ([.ref b, .int p1, .int p2, .int p3]) ++ List.replicate (4 - (lg_sl ([.ref b, .int p1, .int p2, .int p3])).length) Slot.unset).toArray = ls at hl ⊢
  have hl : lv_has ls 4 [(0, .ref b), (1, .int p1), (2, .int p2), (3, .int p3)] := hl
  refine lv_iload_n hx hb dX5_divide_0 rfl (lv_at hl 2 rfl) ?_
  refine lv_i2l hx hb dX5_divide_1 rfl ?_
  refine xr_0 (va_runS (As := [.long p2.toInt64]) (rest := []) ⟨hx, hb, hml, hown, xTs⟩ (c_needDivisor h _ (fun q => hc (xI64z q))) ⟨xB (n := 1) (k_493 h hb0) (k_1 h hb0) (k_491 h hb0) (by decide) rfl rfl rfl (by decide) (by decide), (k_492 h hb0)⟩ (xpS hb0 hS hz (va_P.sub hP [] rfl)) rfl rfl hl.1 rfl (lv_room (Nat.le_of_ble_eq_true rfl)) dX5_divide_2 ⟨(Nat.le_of_ble_eq_true rfl), (Nat.le_of_ble_eq_true rfl)⟩) ?_
  refine lv_iload_n hx hb dX5_divide_5 rfl (lv_at hl 3 rfl) ?_
  refine lv_if_eq (tgt := 15) hx hb dX5_divide_6 (by decide) (fun c_1 => ?_) (fun c_1 => ?_)
  · refine lv_iload_n hx hb dX5_divide_15 rfl (lv_at hl 1 rfl) ?_
    refine lv_iload_n hx hb dX5_divide_16 rfl (lv_at hl 2 rfl) ?_
    refine lv_idiv hx hb dX5_divide_17 hc ?_
    exact W.iret hx hb hr (fun t ht _ => ⟨by rw [if_pos c_1], ht⟩) (fun q z => nomatch z) dX5_divide_18
  · refine lv_iload_n hx hb dX5_divide_9 rfl (lv_at hl 1 rfl) ?_
    refine lv_iload_n hx hb dX5_divide_10 rfl (lv_at hl 2 rfl) ?_
    refine lv_irem hx hb dX5_divide_11 hc ?_
    refine lv_goto (tgt := 18) hx hb dX5_divide_12 (by decide) ?_
    exact W.iret hx hb hr (fun t ht _ => ⟨by rw [if_neg c_1], ht⟩) (fun q z => nomatch z) dX5_divide_18
set_option maxHeartbeats 4000000 in
set_option maxRecDepth 100000 in
theorem t_divide_Z {l : Launch} {s0 : State} {a0 : Array Value} {dC : Nat → ClassId} {dI : Nat → Nat → Nat} {cA : Nat → ClassId} (h : xC l s0 a0 dC dI cA) (b : Nat) (p1 p2 : Int32) (p3 : Int32) (hc : p2 = 0) : xt_Met l yX5_divide [Cond.code yX5_divide cX5_divide 4 (some .int)] ({ frames := 8, cells := 1, slots := 8, locals := 140 } : Room) (xP s0 (dC, dI) [.ref b, .int p1, .int p2, .int p3] []) "java/lang/ArithmeticException" 1 8 := by
  refine xt_ofW (cc := cX5_divide) (maxL := 4) (ret := (some .int)) (by decide) rfl ?_
  intro p e s m args below meth c s₁ B hml hout hv
  obtain ⟨rfl, hb0, hP⟩ := hv
  have hx := B.exec
  have hb := B.bytes
  have hr := B.returns
  have hown : s.vm.findClass RX5 = some m.cls := findClass_of_methodNamed B.named
  have hlocks := B.notSynchronized
  have hK := h.K hb0
  have hS : va_S (fun _ : Nat => False) s.heap s.heap [] := va_S.rf
  have hz : ∀ q : Nat, (fun _ : Nat => False) q → s0.heap.size ≤ q := fun _ z => z.elim
  have hl := lv_entry ([.ref b, .int p1, .int p2, .int p3]) (n := 4) (Nat.le_of_ble_eq_true rfl)
  rw [lg_entry_eq]
  generalize (lg_sl ([.ref b, .int p1, .int p2, .int p3]) ++ List.replicate (4 - (lg_sl ([.ref b, .int p1, .int p2, .int p3])).length) Slot.unset).toArray = ls at hl ⊢
  have hl : lv_has ls 4 [(0, .ref b), (1, .int p1), (2, .int p2), (3, .int p3)] := hl
  refine lv_iload_n hx hb dX5_divide_0 rfl (lv_at hl 2 rfl) ?_
  refine lv_i2l hx hb dX5_divide_1 rfl ?_
  exact xt_callS (As := [.long p2.toInt64]) (rest := []) ⟨hx, hb, hml, hown, xTs⟩ (t_needDivisor h _ (by rw [hc]; rfl)) ⟨xB (n := 1) (k_493 h hb0) (k_1 h hb0) (k_491 h hb0) (by decide) rfl rfl rfl (by decide) (by decide), (k_492 h hb0)⟩ (xpS hb0 hS hz (va_P.sub hP [] rfl)) rfl rfl hl.1 rfl (lv_room (Nat.le_of_ble_eq_true rfl)) dX5_divide_2 ⟨(Nat.le_of_ble_eq_true rfl), (Nat.le_of_ble_eq_true rfl)⟩ (fun q ce H1 h1 h2 h3 h4 h5 => xt_out hout hlocks h1 h2 h3 (Nat.le_of_ble_eq_true rfl) (Nat.le_of_ble_eq_true rfl))
set_option maxHeartbeats 4000000 in
set_option maxRecDepth 100000 in
theorem c_divideLong {l : Launch} {s0 : State} {a0 : Array Value} {dC : Nat → ClassId} {dI : Nat → Nat → Nat} {cA : Nat → ClassId} (h : xC l s0 a0 dC dI cA) (b : Nat) (p1 p2 : Int64) (p3 : Int32) (hc : ¬ p2 = 0) : Met l yX5_divideLong [Cond.code yX5_divideLong cX5_divideLong 6 (some .long)] ({ frames := 1, cells := 0, slots := 0, locals := 40 } : Room) (xP s0 (dC, dI) [.ref b, .long p1, .long p2, .int p3] []) (xR (some (.long (if p3 = 0 then p1 / p2 else p1 - p1 / p2 * p2)))) 0 0 (fun _ => False) := by
  refine Met.ofW (cc := cX5_divideLong) (maxL := 6) (ret := (some .long)) (by decide) rfl ?_
  intro p e s m args below meth c s₁ B hml hv
  obtain ⟨rfl, hb0, hP⟩ := hv
  have hx := B.exec
  have hb := B.bytes
  have hr := B.returns
  have hown : s.vm.findClass RX5 = some m.cls := findClass_of_methodNamed B.named
  have hlocks := B.notSynchronized
  have hK := h.K hb0
  have hS : va_S (fun _ : Nat => False) s.heap s.heap [] := va_S.rf
  have hz : ∀ q : Nat, (fun _ : Nat => False) q → s0.heap.size ≤ q := fun _ z => z.elim
  have hl := lv_entry ([.ref b, .long p1, .long p2, .int p3]) (n := 6) (Nat.le_of_ble_eq_true rfl)
  rw [lg_entry_eq]
  generalize (lg_sl ([.ref b, .long p1, .long p2, .int p3]) ++ List.replicate (6 - (lg_sl ([.ref b, .long p1, .long p2, .int p3])).length) Slot.unset).toArray = ls at hl ⊢
  have hl : lv_has ls 6 [(0, .ref b), (1, .long p1), (3, .long p2), (5, .int p3)] := hl
  refine lv_lload_n hx hb dX5_divideLong_0 rfl (lv_at hl 2 rfl) ?_
  refine xr_0 (va_runS (As := [.long p2]) (rest := []) ⟨hx, hb, hml, hown, xTs⟩ (c_needDivisor h _ hc) ⟨xB (n := 1) (k_493 h hb0) (k_1 h hb0) (k_491 h hb0) (by decide) rfl rfl rfl (by decide) (by decide), (k_492 h hb0)⟩ (xpS hb0 hS hz (va_P.sub hP [] rfl)) rfl rfl hl.1 rfl (lv_room (Nat.le_of_ble_eq_true rfl)) dX5_divideLong_1 ⟨(Nat.le_of_ble_eq_true rfl), (Nat.le_of_ble_eq_true rfl)⟩) ?_
  refine lv_iload hx hb dX5_divideLong_4 (lv_at hl 3 rfl) ?_
  refine lv_if_eq (tgt := 15) hx hb dX5_divideLong_6 (by decide) (fun c_1 => ?_) (fun c_1 => ?_)
  · refine lv_lload_n hx hb dX5_divideLong_15 rfl (lv_at hl 1 rfl) ?_
    refine lv_lload_n hx hb dX5_divideLong_16 rfl (lv_at hl 2 rfl) ?_
    refine lv_ldiv hx hb dX5_divideLong_17 hc ?_
    exact W.lret hx hb hr (fun t ht _ => ⟨by rw [if_pos c_1], ht⟩) (fun q z => nomatch z) dX5_divideLong_18
  · refine lv_lload_n hx hb dX5_divideLong_9 rfl (lv_at hl 1 rfl) ?_
    refine lv_lload_n hx hb dX5_divideLong_10 rfl (lv_at hl 2 rfl) ?_
    refine lv_lrem hx hb dX5_divideLong_11 hc ?_
    refine lv_goto (tgt := 18) hx hb dX5_divideLong_12 (by decide) ?_
    exact W.lret hx hb hr (fun t ht _ => ⟨by rw [if_neg c_1], ht⟩) (fun q z => nomatch z) dX5_divideLong_18
set_option maxHeartbeats 4000000 in
set_option maxRecDepth 100000 in
theorem t_divideLong_Z {l : Launch} {s0 : State} {a0 : Array Value} {dC : Nat → ClassId} {dI : Nat → Nat → Nat} {cA : Nat → ClassId} (h : xC l s0 a0 dC dI cA) (b : Nat) (p1 p2 : Int64) (p3 : Int32) (hc : p2 = 0) : xt_Met l yX5_divideLong [Cond.code yX5_divideLong cX5_divideLong 6 (some .long)] ({ frames := 8, cells := 1, slots := 8, locals := 140 } : Room) (xP s0 (dC, dI) [.ref b, .long p1, .long p2, .int p3] []) "java/lang/ArithmeticException" 1 8 := by
  refine xt_ofW (cc := cX5_divideLong) (maxL := 6) (ret := (some .long)) (by decide) rfl ?_
  intro p e s m args below meth c s₁ B hml hout hv
  obtain ⟨rfl, hb0, hP⟩ := hv
  have hx := B.exec
  have hb := B.bytes
  have hr := B.returns
  have hown : s.vm.findClass RX5 = some m.cls := findClass_of_methodNamed B.named
  have hlocks := B.notSynchronized
  have hK := h.K hb0
  have hS : va_S (fun _ : Nat => False) s.heap s.heap [] := va_S.rf
  have hz : ∀ q : Nat, (fun _ : Nat => False) q → s0.heap.size ≤ q := fun _ z => z.elim
  have hl := lv_entry ([.ref b, .long p1, .long p2, .int p3]) (n := 6) (Nat.le_of_ble_eq_true rfl)
  rw [lg_entry_eq]
  generalize (lg_sl ([.ref b, .long p1, .long p2, .int p3]) ++ List.replicate (6 - (lg_sl ([.ref b, .long p1, .long p2, .int p3])).length) Slot.unset).toArray = ls at hl ⊢
  have hl : lv_has ls 6 [(0, .ref b), (1, .long p1), (3, .long p2), (5, .int p3)] := hl
  refine lv_lload_n hx hb dX5_divideLong_0 rfl (lv_at hl 2 rfl) ?_
  exact xt_callS (As := [.long p2]) (rest := []) ⟨hx, hb, hml, hown, xTs⟩ (t_needDivisor h _ hc) ⟨xB (n := 1) (k_493 h hb0) (k_1 h hb0) (k_491 h hb0) (by decide) rfl rfl rfl (by decide) (by decide), (k_492 h hb0)⟩ (xpS hb0 hS hz (va_P.sub hP [] rfl)) rfl rfl hl.1 rfl (lv_room (Nat.le_of_ble_eq_true rfl)) dX5_divideLong_1 ⟨(Nat.le_of_ble_eq_true rfl), (Nat.le_of_ble_eq_true rfl)⟩ (fun q ce H1 h1 h2 h3 h4 h5 => xt_out hout hlocks h1 h2 h3 (Nat.le_of_ble_eq_true rfl) (Nat.le_of_ble_eq_true rfl))
set_option maxHeartbeats 4000000 in
set_option maxRecDepth 100000 in
theorem t_raise_N {l : Launch} {s0 : State} {a0 : Array Value} {dC : Nat → ClassId} {dI : Nat → Nat → Nat} {cA : Nat → ClassId} (h : xC l s0 a0 dC dI cA) (b : Nat) (p1 : Int32) (ht : p1 = 0) : xt_Met l yX5_raise [Cond.code yX5_raise cX5_raise 2 (some .int)] ({ frames := 8, cells := 1, slots := 8, locals := 140 } : Room) (xP s0 (dC, dI) [.ref b, .int p1] []) "java/lang/NullPointerException" 1 8 := by
  refine xt_ofW (cc := cX5_raise) (maxL := 2) (ret := (some .int)) (by decide) rfl ?_
  intro p e s m args below meth c s₁ B hml hout hv
  obtain ⟨rfl, hb0, hP⟩ := hv
  have hx := B.exec
  have hb := B.bytes
  have hr := B.returns
  have hown : s.vm.findClass RX5 = some m.cls := findClass_of_methodNamed B.named
  have hlocks := B.notSynchronized
  have hK := h.K hb0
  have hS : va_S (fun _ : Nat => False) s.heap s.heap [] := va_S.rf
  have hz : ∀ q : Nat, (fun _ : Nat => False) q → s0.heap.size ≤ q := fun _ z => z.elim
  have hl := lv_entry ([.ref b, .int p1]) (n := 2) (Nat.le_of_ble_eq_true rfl)
  rw [lg_entry_eq]
  generalize (lg_sl ([.ref b, .int p1]) ++ List.replicate (2 - (lg_sl ([.ref b, .int p1])).length) Slot.unset).toArray = ls at hl ⊢
  have hl : lv_has ls 2 [(0, .ref b), (1, .int p1)] := hl
  refine lv_iload_n hx hb dX5_raise_0 rfl (lv_at hl 1 rfl) ?_
  exact xt_callS (As := [.int p1]) (rest := []) ⟨hx, hb, hml, hown, xTs⟩ (t_needThere h _ ht) ⟨xB (n := 1) (k_140 h hb0) (k_1 h hb0) (k_138 h hb0) (by decide) rfl rfl rfl (by decide) (by decide), (k_139 h hb0)⟩ (xpS hb0 hS hz (va_P.sub hP [] rfl)) rfl rfl hl.1 rfl (lv_room (Nat.le_of_ble_eq_true rfl)) dX5_raise_1 ⟨(Nat.le_of_ble_eq_true rfl), (Nat.le_of_ble_eq_true rfl)⟩ (fun q ce H1 h1 h2 h3 h4 h5 => xt_out hout hlocks h1 h2 h3 (Nat.le_of_ble_eq_true rfl) (Nat.le_of_ble_eq_true rfl))
set_option maxHeartbeats 4000000 in
set_option maxRecDepth 100000 in
theorem t_raise_Z {l : Launch} {s0 : State} {a0 : Array Value} {dC : Nat → ClassId} {dI : Nat → Nat → Nat} {cA : Nat → ClassId} (h : xC l s0 a0 dC dI cA) (b : Nat) (p1 : Int32) (ht : ¬ p1 = 0) : xt_Met l yX5_raise [Cond.code yX5_raise cX5_raise 2 (some .int)] ({ frames := 8, cells := 1, slots := 8, locals := 140 } : Room) (xP s0 (dC, dI) [.ref b, .int p1] []) "java/lang/ArithmeticException" 1 8 := by
  refine xt_ofW (cc := cX5_raise) (maxL := 2) (ret := (some .int)) (by decide) rfl ?_
  intro p e s m args below meth c s₁ B hml hout hv
  obtain ⟨rfl, hb0, hP⟩ := hv
  have hx := B.exec
  have hb := B.bytes
  have hr := B.returns
  have hown : s.vm.findClass RX5 = some m.cls := findClass_of_methodNamed B.named
  have hlocks := B.notSynchronized
  have hK := h.K hb0
  have hS : va_S (fun _ : Nat => False) s.heap s.heap [] := va_S.rf
  have hz : ∀ q : Nat, (fun _ : Nat => False) q → s0.heap.size ≤ q := fun _ z => z.elim
  have hl := lv_entry ([.ref b, .int p1]) (n := 2) (Nat.le_of_ble_eq_true rfl)
  rw [lg_entry_eq]
  generalize (lg_sl ([.ref b, .int p1]) ++ List.replicate (2 - (lg_sl ([.ref b, .int p1])).length) Slot.unset).toArray = ls at hl ⊢
  have hl : lv_has ls 2 [(0, .ref b), (1, .int p1)] := hl
  refine lv_iload_n hx hb dX5_raise_0 rfl (lv_at hl 1 rfl) ?_
  refine xr_0 (va_runS (As := [.int p1]) (rest := []) ⟨hx, hb, hml, hown, xTs⟩ (c_needThere h _ ht) ⟨xB (n := 1) (k_140 h hb0) (k_1 h hb0) (k_138 h hb0) (by decide) rfl rfl rfl (by decide) (by decide), (k_139 h hb0)⟩ (xpS hb0 hS hz (va_P.sub hP [] rfl)) rfl rfl hl.1 rfl (lv_room (Nat.le_of_ble_eq_true rfl)) dX5_raise_1 ⟨(Nat.le_of_ble_eq_true rfl), (Nat.le_of_ble_eq_true rfl)⟩) ?_
  exact xt_throwS (own := RX5) (names := ["java/lang/RuntimeException", "java/lang/Exception"]) hx hb h.1 hown (by decide) (by decide) (k_494 h hb0) (k_17 h hb0) (k_524 h hb0) (xo_135 h hb0) (hl.1.trans hml.symm) hout hlocks dX5_raise_4 dX5_raise_7 dX5_raise_8 dX5_raise_10 dX5_raise_13 (by decide) (by decide) (by decide) (by decide) (by decide) (by decide)
end
section
/-! Boxes are made and put. -/
theorem dfX0 : ∀ j, j < 1 → defaultValue (tyX0 j) = vp_V [.int 0] j := fun j hj => match j, hj with
  | 0, _ => rfl
theorem dfX1 : ∀ j, j < 4 → defaultValue (tyX1 j) = vp_V [.null, .int 0, .int 0, .int 0] j := fun j hj => match j, hj with
  | 0, _ => rfl
  | 1, _ => rfl
  | 2, _ => rfl
  | 3, _ => rfl
theorem dfX2 : ∀ j, j < 1 → defaultValue (tyX2 j) = vp_V [.int 0] j := fun j hj => match j, hj with
  | 0, _ => rfl
theorem dfX3 : ∀ j, j < 4 → defaultValue (tyX3 j) = vp_V [.null, .int 0, .int 0, .int 0] j := fun j hj => match j, hj with
  | 0, _ => rfl
  | 1, _ => rfl
  | 2, _ => rfl
  | 3, _ => rfl
theorem dfX4 : ∀ j, j < 9 → defaultValue (tyX4 j) = vp_V [.null, .null, .null, .null, .null, .null, .null, .null, .null] j := fun j hj => match j, hj with
  | 0, _ => rfl
  | 1, _ => rfl
  | 2, _ => rfl
  | 3, _ => rfl
  | 4, _ => rfl
  | 5, _ => rfl
  | 6, _ => rfl
  | 7, _ => rfl
  | 8, _ => rfl
theorem dfX5 : ∀ j, j < 5 → defaultValue (tyX5 j) = vp_V [.null, .null, .null, .int 0, .int 0] j := fun j hj => match j, hj with
  | 0, _ => rfl
  | 1, _ => rfl
  | 2, _ => rfl
  | 3, _ => rfl
  | 4, _ => rfl
theorem dfX6 : ∀ j, j < 13 → defaultValue (tyX6 j) = vp_V [.int 0, .null, .null, .int 0, .int 0, .int 0, .int 0, .int 0, .int 0, .int 0, .int 0, .null, .null] j := fun j hj => match j, hj with
  | 0, _ => rfl
  | 1, _ => rfl
  | 2, _ => rfl
  | 3, _ => rfl
  | 4, _ => rfl
  | 5, _ => rfl
  | 6, _ => rfl
  | 7, _ => rfl
  | 8, _ => rfl
  | 9, _ => rfl
  | 10, _ => rfl
  | 11, _ => rfl
  | 12, _ => rfl
section XPA
variable {R : Room} {s : State} {args : Array Value}
theorem xCU {own C owner : String} {index n maxL mc ms : Nat} {x y : MethodName} {bytes : ByteArray} {ret : Option FieldType} {rm : Room} (hcode : (Cond.code y bytes maxL ret).before args s = true) (hini : (Cond.initialized y.cls).before args s = true) (hl : (Cond.methodLink own index x).before args s = true)
    (hsm : (Cond.sameMethod x.cls owner x.name x.desc).before args s = true) (hdc : va_Decl s ⟨owner, x.name, x.desc⟩) (hsl : (Cond.selects C x y).before args s = true) (hin : (Cond.instanceMethod y).before args s = true)
    (hd : owner ≠ "java/lang/invoke/MethodHandle" ∧ owner ≠ "java/lang/invoke/VarHandle") (hn : (parseMethodDescriptor x.desc).map (fun d => d.parameters.length) = some n) (hrc : rm.cells = mc) (hrs : rm.slots = ms) (hR : rm.frames + 1 ≤ R.frames) (hR2 : 8 + (maxL + 11) + rm.locals ≤ R.locals) :
    va_CU R s args own C owner index x y bytes maxL ret [.code y bytes maxL ret] rm mc ms n := by
  refine ⟨⟨hrc, hrs, hR, hR2, fun w hw a' U hW => ?_, List.mem_cons_self⟩, hcode, hini, hd, fun sig h => ?_, hl, hsm, hdc, hsl, hin⟩
  · rw [List.mem_singleton] at hw
    rw [hw]
    exact xg_at hW rfl hcode
  · rw [h] at hn
    exact (Option.some.inj hn).symm
end XPA
/-- after a call that only made new cells: what was there is there -/
theorem xkeep {D : va_G} {ws : va_W} {H0 H : Heap} {A : Nat → Prop} {locs : List Loc} (hP : va_P D vwCl ws H0) (hS : va_S A H0 H locs) (hA : ∀ q, A q → H0.size ≤ q) : va_P D vwCl ws H := hP.kept (fun k q hq => hS.2.1 q.1 (hP k q hq).lt (fun z => absurd (hP k q hq).lt (Nat.not_lt.mpr (hA _ z))))
theorem xnew_A {sz q : Nat} (h : va_A [] sz q) : sz ≤ q := by
  rcases h with ⟨k, e, h⟩ | h
  · cases h
  · exact h
theorem xD_nil {A : Nat → Prop} : va_D A [] := ⟨fun i j p q h => (nomatch h), fun k q h => (nomatch h)⟩
set_option maxHeartbeats 4000000 in
set_option maxRecDepth 100000 in
theorem c_weigh_2 {l : Launch} {s0 : State} {a0 : Array Value} {dC : Nat → ClassId} {dI : Nat → Nat → Nat} {cA : Nat → ClassId} (h : xC l s0 a0 dC dI cA) (b gr br : Nat) (wr ca : Int32) (ro pl : Nat) (z1 z2 z3 p1 : Int32) (f : Nat → Option Nat) (p2 : Int32) (a : Nat) (v : Int32) (hm : z1 = 0 ∨ z1 = 1) (ht : ¬ z1 = 0) (h0 : ¬ p1 < 0) (h1 : p1 < z3) (hi : vp_in p1 19) (hf : f p1.toNatClampNeg = some a) : Met l yX5_weigh [Cond.code yX5_weigh cX5_weigh 3 (some .int)] ({ frames := 2, cells := 0, slots := 0, locals := 80 } : Room) (xP s0 (dC, dI) [.ref b, .int p1, .int p2] [(b, .inr (5, [.ref ro, .ref gr, .ref br, .int wr, .int ca])), (br, .inr (1, [.ref pl, .int z1, .int z2, .int z3])), (pl, .inl (cA 8, 19, .inr (.inr (.inr (.inr f))))), (a, .inr (2, [.int v]))]) (xR (some (.int (v * 5 - p2)))) 0 0 (fun _ => False) := by
  refine Met.ofW (cc := cX5_weigh) (maxL := 3) (ret := (some .int)) (by decide) rfl ?_
  intro p e s m args below meth c s₁ B hml hv
  obtain ⟨rfl, hb0, hP⟩ := hv
  have hx := B.exec
  have hb := B.bytes
  have hr := B.returns
  have hown : s.vm.findClass RX5 = some m.cls := findClass_of_methodNamed B.named
  have hlocks := B.notSynchronized
  have hK := h.K hb0
  have hS : va_S (fun _ : Nat => False) s.heap s.heap [] := va_S.rf
  have hz : ∀ q : Nat, (fun _ : Nat => False) q → s0.heap.size ≤ q := fun _ z => z.elim
  have hl := lv_entry ([.ref b, .int p1, .int p2]) (n := 3) (Nat.le_of_ble_eq_true rfl)
  rw [lg_entry_eq]
  generalize (lg_sl ([.ref b, .int p1, .int p2]) ++ List.replicate (3 - (lg_sl ([.ref b, .int p1, .int p2])).length) Slot.unset).toArray = ls at hl ⊢
  have hl : lv_has ls 3 [(0, .ref b), (1, .int p1), (2, .int p2)] := hl
  refine lv_aload_n hx hb dX5_weigh_0 rfl (lv_at hl 0 rfl) ?_
  refine lv_iload_n hx hb dX5_weigh_1 rfl (lv_at hl 1 rfl) ?_
  refine xr_1 (va_runV (As := [.int p1]) (rest := []) ⟨hx, hb, hml, hown, xTs⟩ (c_boxAt h b gr br wr ca ro pl z1 z2 z3 p1 f a hm ht h0 h1 hi hf) ⟨xB (n := 1) (k_428 h hb0) (k_1 h hb0) (k_425 h hb0) (by decide) rfl rfl rfl (by decide) (by decide), (k_427 h hb0), (ks_2 h hb0)⟩ (xpV hb0 hS hz (va_P.sub hP [0, 1, 2] rfl) (va_recv hK hP (ci := 5) (q0 := 0) rfl rfl)) rfl rfl hl.1 rfl (lv_room (Nat.le_of_ble_eq_true rfl)) dX5_weigh_2 ⟨(Nat.le_of_ble_eq_true rfl), (Nat.le_of_ble_eq_true rfl)⟩) ?_
  refine lv_iload_n hx hb dX5_weigh_5 rfl (lv_at hl 2 rfl) ?_
  refine xr_1 (va_runU (C := RX2) (owner := "FaultBench$Box") (As := [.int p2]) (rest := []) ⟨hx, hb, hml, hown, xTs⟩ (c_weightDisc h a v p2) (xCU (n := 1) (k_454 h hb0) (k_14 h hb0) (k_448 h hb0) (k_451 h hb0) (va_Decl.of (args := #[]) (k_449 h hb0) (k_455 h hb0)) (k_452 h hb0) (k_453 h hb0) (by decide) rfl rfl rfl (by decide) (by decide)) (xpV hb0 hS hz (va_P.sub hP [3] rfl) (va_recv hK hP (ci := 2) (q0 := 3) rfl rfl)) rfl rfl hl.1 rfl (lv_room (Nat.le_of_ble_eq_true rfl)) dX5_weigh_6 ⟨(Nat.le_of_ble_eq_true rfl), (Nat.le_of_ble_eq_true rfl)⟩) ?_
  exact W.iret hx hb hr (fun t ht _ => ⟨rfl, ht⟩) (fun q z => nomatch z) dX5_weigh_9
set_option maxHeartbeats 4000000 in
set_option maxRecDepth 100000 in
theorem c_boxInit_0 {l : Launch} {s0 : State} {a0 : Array Value} {dC : Nat → ClassId} {dI : Nat → Nat → Nat} {cA : Nat → ClassId} (h : xC l s0 a0 dC dI cA) (a : Nat) (z v : Int32) (sz : Nat)  : Met l yX0_init [Cond.code yX0_init cX0_init 2 none] ({ frames := 1, cells := 0, slots := 0, locals := 40 } : Room) (xPM s0 (dC, dI) [.ref a, .int v] [] [(a, .inr (0, [.int z]))] sz) (xQM (dC, dI) (va_A [(a, .inr (0, [.int z]))] sz) (fun r w1 => r = none ∧ w1 = [(a, .inr (0, [.int v]))])) 0 0 (va_A [(a, .inr (0, [.int z]))] sz) := by
  refine Met.ofW (cc := cX0_init) (maxL := 2) (ret := none) (by decide) rfl ?_
  intro p e s m args below meth c s₁ B hml hv
  obtain ⟨rfl, rfl, hb0, hPr, hP, hD0⟩ := hv
  have hx := B.exec
  have hb := B.bytes
  have hr := B.returns
  have hown : s.vm.findClass RX0 = some m.cls := findClass_of_methodNamed B.named
  have hlocks := B.notSynchronized
  have hK := h.K hb0
  have hin : meth.name = "<init>" := (name_of_methodNamed B.named B.method).1
  have hS : va_S (va_A [(a, .inr (0, [.int z]))] s.heap.size) s.heap s.heap [] := va_S.rf
  obtain ⟨A, hAe, hD, hA, hz, hRo, hwk, hnR⟩ := xM_start hb0 hPr hP hD0
  rw [hAe] at hS ⊢
  have hl := lv_entry ([.ref a, .int v]) (n := 2) (Nat.le_of_ble_eq_true rfl)
  rw [lg_entry_eq]
  generalize (lg_sl ([.ref a, .int v]) ++ List.replicate (2 - (lg_sl ([.ref a, .int v])).length) Slot.unset).toArray = ls at hl ⊢
  have hl : lv_has ls 2 [(0, .ref a), (1, .int v)] := hl
  refine lv_aload_n hx hb dX0_init_0 rfl (lv_at hl 0 rfl) ?_
  refine W.objInit hx hb hown (k_377 h hb0) (k_24 h hb0) (k_25 h hb0) rfl (hl.1.trans hml.symm) rfl dX0_init_1 (Nat.le_of_ble_eq_true rfl) (Nat.le_of_ble_eq_true rfl) ?_
  show W _ _ _ _ _ _ _ _ _ _ _ _ _ _ _ (F0 m 4 ls [])
  refine lv_aload_n hx hb dX0_init_4 rfl (lv_at hl 0 rfl) ?_
  refine lv_iload_n hx hb dX0_init_5 rfl (lv_at hl 1 rfl) ?_
  refine va_put (D := (dC, dI)) (ci := 0) (v := .int v) (ty := .int) (C := RX0) (T := TX0) (N := 1) hx hb (ly_0 h hb0) (fun _ z => z) tyX0 tyX0_ok nmX0 hown hK hP hD hS 0 rfl rfl 0 (by decide) (k_378 h hb0) (fun _ z => z) rfl (by decide +kernel) rfl rfl (Nat.le_of_ble_eq_true rfl) dX0_init_6 (fun H locs hP hD hS => ?_)
  have hP : va_P (dC, dI) vwCl [(a, .inr (0, [.int v]))] H := hP
  have hD : va_D A [(a, .inr (0, [.int v]))] := hD
  exact W.vret hx hb hr (fun t ht _ => ⟨none, _, rfl, ⟨rfl, rfl⟩, by rw [ht]; exact hP, hD, hS.F ht⟩) (fun q z => hS.2.2 q z) dX0_init_9
set_option maxHeartbeats 4000000 in
set_option maxRecDepth 100000 in
theorem c_boxInit_2 {l : Launch} {s0 : State} {a0 : Array Value} {dC : Nat → ClassId} {dI : Nat → Nat → Nat} {cA : Nat → ClassId} (h : xC l s0 a0 dC dI cA) (a : Nat) (z v : Int32) (sz : Nat)  : Met l yX0_init [Cond.code yX0_init cX0_init 2 none] ({ frames := 1, cells := 0, slots := 0, locals := 40 } : Room) (xPM s0 (dC, dI) [.ref a, .int v] [] [(a, .inr (2, [.int z]))] sz) (xQM (dC, dI) (va_A [(a, .inr (2, [.int z]))] sz) (fun r w1 => r = none ∧ w1 = [(a, .inr (2, [.int v]))])) 0 0 (va_A [(a, .inr (2, [.int z]))] sz) := by
  refine Met.ofW (cc := cX0_init) (maxL := 2) (ret := none) (by decide) rfl ?_
  intro p e s m args below meth c s₁ B hml hv
  obtain ⟨rfl, rfl, hb0, hPr, hP, hD0⟩ := hv
  have hx := B.exec
  have hb := B.bytes
  have hr := B.returns
  have hown : s.vm.findClass RX0 = some m.cls := findClass_of_methodNamed B.named
  have hlocks := B.notSynchronized
  have hK := h.K hb0
  have hin : meth.name = "<init>" := (name_of_methodNamed B.named B.method).1
  have hS : va_S (va_A [(a, .inr (2, [.int z]))] s.heap.size) s.heap s.heap [] := va_S.rf
  obtain ⟨A, hAe, hD, hA, hz, hRo, hwk, hnR⟩ := xM_start hb0 hPr hP hD0
  rw [hAe] at hS ⊢
  have hl := lv_entry ([.ref a, .int v]) (n := 2) (Nat.le_of_ble_eq_true rfl)
  rw [lg_entry_eq]
  generalize (lg_sl ([.ref a, .int v]) ++ List.replicate (2 - (lg_sl ([.ref a, .int v])).length) Slot.unset).toArray = ls at hl ⊢
  have hl : lv_has ls 2 [(0, .ref a), (1, .int v)] := hl
  refine lv_aload_n hx hb dX0_init_0 rfl (lv_at hl 0 rfl) ?_
  refine W.objInit hx hb hown (k_377 h hb0) (k_24 h hb0) (k_25 h hb0) rfl (hl.1.trans hml.symm) rfl dX0_init_1 (Nat.le_of_ble_eq_true rfl) (Nat.le_of_ble_eq_true rfl) ?_
  show W _ _ _ _ _ _ _ _ _ _ _ _ _ _ _ (F0 m 4 ls [])
  refine lv_aload_n hx hb dX0_init_4 rfl (lv_at hl 0 rfl) ?_
  refine lv_iload_n hx hb dX0_init_5 rfl (lv_at hl 1 rfl) ?_
  refine va_put (D := (dC, dI)) (ci := 2) (v := .int v) (ty := .int) (C := RX2) (T := TX2) (N := 1) hx hb (ly_2 h hb0) (fun _ z => z) tyX2 tyX2_ok nmX2 hown hK hP hD hS 0 rfl rfl 0 (by decide) (k_378 h hb0) (fun _ z => z) rfl (by decide +kernel) rfl rfl (Nat.le_of_ble_eq_true rfl) dX0_init_6 (fun H locs hP hD hS => ?_)
  have hP : va_P (dC, dI) vwCl [(a, .inr (2, [.int v]))] H := hP
  have hD : va_D A [(a, .inr (2, [.int v]))] := hD
  exact W.vret hx hb hr (fun t ht _ => ⟨none, _, rfl, ⟨rfl, rfl⟩, by rw [ht]; exact hP, hD, hS.F ht⟩) (fun q z => hS.2.2 q z) dX0_init_9
set_option maxHeartbeats 4000000 in
set_option maxRecDepth 100000 in
theorem c_discInit {l : Launch} {s0 : State} {a0 : Array Value} {dC : Nat → ClassId} {dI : Nat → Nat → Nat} {cA : Nat → ClassId} (h : xC l s0 a0 dC dI cA) (a : Nat) (z v : Int32) (sz : Nat)  : Met l yX2_init [Cond.code yX2_init cX2_init 2 none] ({ frames := 2, cells := 0, slots := 0, locals := 80 } : Room) (xPM s0 (dC, dI) [.ref a, .int v] [] [(a, .inr (2, [.int z]))] sz) (xQM (dC, dI) (va_A [(a, .inr (2, [.int z]))] sz) (fun r w1 => r = none ∧ w1 = [(a, .inr (2, [.int v]))])) 0 0 (va_A [(a, .inr (2, [.int z]))] sz) := by
  refine Met.ofW (cc := cX2_init) (maxL := 2) (ret := none) (by decide) rfl ?_
  intro p e s m args below meth c s₁ B hml hv
  obtain ⟨rfl, rfl, hb0, hPr, hP, hD0⟩ := hv
  have hx := B.exec
  have hb := B.bytes
  have hr := B.returns
  have hown : s.vm.findClass RX2 = some m.cls := findClass_of_methodNamed B.named
  have hlocks := B.notSynchronized
  have hK := h.K hb0
  have hin : meth.name = "<init>" := (name_of_methodNamed B.named B.method).1
  have hS : va_S (va_A [(a, .inr (2, [.int z]))] s.heap.size) s.heap s.heap [] := va_S.rf
  obtain ⟨A, hAe, hD, hA, hz, hRo, hwk, hnR⟩ := xM_start hb0 hPr hP hD0
  rw [hAe] at hS ⊢
  have hl := lv_entry ([.ref a, .int v]) (n := 2) (Nat.le_of_ble_eq_true rfl)
  rw [lg_entry_eq]
  generalize (lg_sl ([.ref a, .int v]) ++ List.replicate (2 - (lg_sl ([.ref a, .int v])).length) Slot.unset).toArray = ls at hl ⊢
  have hl : lv_has ls 2 [(0, .ref a), (1, .int v)] := hl
  refine lv_aload_n hx hb dX2_init_0 rfl (lv_at hl 0 rfl) ?_
  refine lv_iload_n hx hb dX2_init_1 rfl (lv_at hl 1 rfl) ?_
  refine xm_of (wc := [(a, .inr (2, [.int z]))]) (wo := []) (va_runI (As := [.int v]) (rest := []) ⟨hx, hb, hml, hown, xTs⟩ (c_boxInit_2 h a z v _) ⟨xB (n := 1) (k_376 h hb0) (k_13 h hb0) (k_390 h hb0) (by decide) rfl rfl rfl (by decide) (by decide), rfl, (k_375 h hb0)⟩ (xpMS (As := [.ref a, .int v]) (wr := []) (wc := [(a, .inr (2, [.int z]))]) hb0 hS hz (va_P.sub hP [] rfl) (va_P.sub hP [0] rfl) (va_D.sub (hwk _ hD) [0] rfl rfl)) rfl rfl hl.1 rfl (lv_room (Nat.le_of_ble_eq_true rfl)) dX2_init_2 ⟨(Nat.le_of_ble_eq_true rfl), (Nat.le_of_ble_eq_true rfl)⟩) hP hD hS hA [0] [] rfl rfl rfl (by decide) (fun r w1 H locs hΦ hP hD hS => ?_)
  obtain ⟨rfl, rfl⟩ := hΦ
  have hP : va_P (dC, dI) vwCl [(a, .inr (2, [.int v]))] H := hP
  have hD : va_D A [(a, .inr (2, [.int v]))] := hD
  exact W.vret hx hb hr (fun t ht _ => ⟨none, _, rfl, ⟨rfl, rfl⟩, by rw [ht]; exact hP, hD, hS.F ht⟩) (fun q z => hS.2.2 q z) dX2_init_5
set_option maxHeartbeats 4000000 in
set_option maxRecDepth 100000 in
theorem c_newBox_n {l : Launch} {s0 : State} {a0 : Array Value} {dC : Nat → ClassId} {dI : Nat → Nat → Nat} {cA : Nat → ClassId} (h : xC l s0 a0 dC dI cA) (p0 p1 : Int32) (hw : p0 &&& 3 = 0) : Met l yX5_newBox [Cond.code yX5_newBox cX5_newBox 2 (some (.object "FaultBench$Box"))] ({ frames := 0, cells := 0, slots := 0, locals := 0 } : Room) (xP s0 (dC, dI) [.int p0, .int p1] []) (xR (some .null)) 0 0 (fun _ => False) := by
  refine Met.ofW (cc := cX5_newBox) (maxL := 2) (ret := (some (.object "FaultBench$Box"))) (by decide) rfl ?_
  intro p e s m args below meth c s₁ B hml hv
  obtain ⟨rfl, hb0, hP⟩ := hv
  have hx := B.exec
  have hb := B.bytes
  have hr := B.returns
  have hown : s.vm.findClass RX5 = some m.cls := findClass_of_methodNamed B.named
  have hlocks := B.notSynchronized
  have hK := h.K hb0
  have hS : va_S (fun _ : Nat => False) s.heap s.heap [] := va_S.rf
  have hz : ∀ q : Nat, (fun _ : Nat => False) q → s0.heap.size ≤ q := fun _ z => z.elim
  have hl := lv_entry ([.int p0, .int p1]) (n := 2) (Nat.le_of_ble_eq_true rfl)
  rw [lg_entry_eq]
  generalize (lg_sl ([.int p0, .int p1]) ++ List.replicate (2 - (lg_sl ([.int p0, .int p1])).length) Slot.unset).toArray = ls at hl ⊢
  have hl : lv_has ls 2 [(0, .int p0), (1, .int p1)] := hl
  refine lv_iload_n hx hb dX5_newBox_0 rfl (lv_at hl 0 rfl) ?_
  refine lv_iconst (v := 3) hx hb dX5_newBox_1 (by decide) ?_
  refine lv_iand hx hb dX5_newBox_2 ?_
  rw [hw]
  refine lv_lookup (off := 25) (tgt := 28) hx hb dX5_newBox_3 (by decide) (by decide) (by decide) ?_
  refine lv_null hx hb dX5_newBox_28 ?_
  refine lv_goto (tgt := 51) hx hb dX5_newBox_29 (by decide) ?_
  exact W.aret hx hb hr (Or.inl ⟨_, rfl⟩) (Or.inl rfl) (fun t ht _ => ⟨rfl, ht⟩) (fun q z => nomatch z) dX5_newBox_51
set_option maxHeartbeats 4000000 in
set_option maxRecDepth 100000 in
theorem c_newBox_b {l : Launch} {s0 : State} {a0 : Array Value} {dC : Nat → ClassId} {dI : Nat → Nat → Nat} {cA : Nat → ClassId} (h : xC l s0 a0 dC dI cA) (p0 p1 : Int32) (sz : Nat) (hw : p0 &&& 3 = 1) : Met l yX5_newBox [Cond.code yX5_newBox cX5_newBox 2 (some (.object "FaultBench$Box"))] ({ frames := 3, cells := 1, slots := 1, locals := 120 } : Room) (xPM s0 (dC, dI) [.int p0, .int p1] [] [] sz) (xQM (dC, dI) (va_A [] sz) (fun r w1 => ∃ q : Nat, r = some (.ref q) ∧ w1 = [(q, .inr (0, [.int p1]))])) 1 1 (va_A [] sz) := by
  refine Met.ofW (cc := cX5_newBox) (maxL := 2) (ret := (some (.object "FaultBench$Box"))) (by decide) rfl ?_
  intro p e s m args below meth c s₁ B hml hv
  obtain ⟨rfl, rfl, hb0, hPr, hP, hD0⟩ := hv
  have hx := B.exec
  have hb := B.bytes
  have hr := B.returns
  have hown : s.vm.findClass RX5 = some m.cls := findClass_of_methodNamed B.named
  have hlocks := B.notSynchronized
  have hK := h.K hb0
  have hS : va_S (va_A [] s.heap.size) s.heap s.heap [] := va_S.rf
  obtain ⟨A, hAe, hD, hA, hz, hRo, hwk, hnR⟩ := xM_start hb0 hPr hP hD0
  rw [hAe] at hS ⊢
  have hl := lv_entry ([.int p0, .int p1]) (n := 2) (Nat.le_of_ble_eq_true rfl)
  rw [lg_entry_eq]
  generalize (lg_sl ([.int p0, .int p1]) ++ List.replicate (2 - (lg_sl ([.int p0, .int p1])).length) Slot.unset).toArray = ls at hl ⊢
  have hl : lv_has ls 2 [(0, .int p0), (1, .int p1)] := hl
  refine lv_iload_n hx hb dX5_newBox_0 rfl (lv_at hl 0 rfl) ?_
  refine lv_iconst (v := 3) hx hb dX5_newBox_1 (by decide) ?_
  refine lv_iand hx hb dX5_newBox_2 ?_
  rw [hw]
  refine lv_lookup (off := 29) (tgt := 32) hx hb dX5_newBox_3 (by decide) (by decide) (by decide) ?_
  refine va_new (C := RX0) (T := TX0) (N := 1) (ci := 0) (fs := [.int 0]) hx hb (ly_0 h hb0) (fun _ z => z) tyX0 tyX0_ok hown (k_372 h hb0) (k_373 h hb0) (k_13 h hb0) hK hP hD hS hA rfl dfX0 (Nat.le_of_ble_eq_true rfl) (Nat.le_of_ble_eq_true rfl) dX5_newBox_32 (fun q H hP hD hS => ?_)
  have hP : va_P (dC, dI) vwCl [(q, .inr (0, [.int 0]))] H := hP
  have hD : va_D A [(q, .inr (0, [.int 0]))] := hD
  refine lv_dup hx hb dX5_newBox_35 rfl ?_
  refine lv_iload_n hx hb dX5_newBox_36 rfl (lv_at hl 1 rfl) ?_
  refine xm_of (wc := [(q, .inr (0, [.int 0]))]) (wo := []) (va_runI (As := [.int p1]) (rest := [.ref q]) ⟨hx, hb, hml, hown, xTs⟩ (c_boxInit_0 h q 0 p1 _) ⟨xB (n := 1) (k_376 h hb0) (k_13 h hb0) (k_374 h hb0) (by decide) rfl rfl rfl (by decide) (by decide), rfl, (k_375 h hb0)⟩ (xpMS (As := [.ref q, .int p1]) (wr := []) (wc := [(q, .inr (0, [.int 0]))]) hb0 hS hz (va_P.sub hP [] rfl) (va_P.sub hP [0] rfl) (va_D.sub (hwk _ hD) [0] rfl rfl)) rfl rfl hl.1 rfl (lv_room (Nat.le_of_ble_eq_true rfl)) dX5_newBox_37 ⟨(Nat.le_of_ble_eq_true rfl), (Nat.le_of_ble_eq_true rfl)⟩) hP hD hS hA [0] [] rfl rfl rfl (by decide) (fun r w1 H locs hΦ hP hD hS => ?_)
  obtain ⟨rfl, rfl⟩ := hΦ
  have hP : va_P (dC, dI) vwCl [(q, .inr (0, [.int p1]))] H := hP
  have hD : va_D A [(q, .inr (0, [.int p1]))] := hD
  refine lv_goto (tgt := 51) hx hb dX5_newBox_40 (by decide) ?_
  exact W.aret hx hb hr (Or.inl ⟨_, rfl⟩) (Or.inr ⟨_, rfl⟩) (fun t ht _ => ⟨(some (.ref q)), _, rfl, ⟨q, rfl, rfl⟩, by rw [ht]; exact hP, hD, hS.F ht⟩) (fun q z => hS.2.2 q z) dX5_newBox_51
set_option maxHeartbeats 4000000 in
set_option maxRecDepth 100000 in
theorem c_newBox_d {l : Launch} {s0 : State} {a0 : Array Value} {dC : Nat → ClassId} {dI : Nat → Nat → Nat} {cA : Nat → ClassId} (h : xC l s0 a0 dC dI cA) (p0 p1 : Int32) (sz : Nat) (hw : p0 &&& 3 = 2 ∨ p0 &&& 3 = 3) : Met l yX5_newBox [Cond.code yX5_newBox cX5_newBox 2 (some (.object "FaultBench$Box"))] ({ frames := 3, cells := 1, slots := 1, locals := 120 } : Room) (xPM s0 (dC, dI) [.int p0, .int p1] [] [] sz) (xQM (dC, dI) (va_A [] sz) (fun r w1 => ∃ q : Nat, r = some (.ref q) ∧ w1 = [(q, .inr (2, [.int p1]))])) 1 1 (va_A [] sz) := by
  refine Met.ofW (cc := cX5_newBox) (maxL := 2) (ret := (some (.object "FaultBench$Box"))) (by decide) rfl ?_
  intro p e s m args below meth c s₁ B hml hv
  obtain ⟨rfl, rfl, hb0, hPr, hP, hD0⟩ := hv
  have hx := B.exec
  have hb := B.bytes
  have hr := B.returns
  have hown : s.vm.findClass RX5 = some m.cls := findClass_of_methodNamed B.named
  have hlocks := B.notSynchronized
  have hK := h.K hb0
  have hS : va_S (va_A [] s.heap.size) s.heap s.heap [] := va_S.rf
  obtain ⟨A, hAe, hD, hA, hz, hRo, hwk, hnR⟩ := xM_start hb0 hPr hP hD0
  rw [hAe] at hS ⊢
  have hl := lv_entry ([.int p0, .int p1]) (n := 2) (Nat.le_of_ble_eq_true rfl)
  rw [lg_entry_eq]
  generalize (lg_sl ([.int p0, .int p1]) ++ List.replicate (2 - (lg_sl ([.int p0, .int p1])).length) Slot.unset).toArray = ls at hl ⊢
  have hl : lv_has ls 2 [(0, .int p0), (1, .int p1)] := hl
  refine lv_iload_n hx hb dX5_newBox_0 rfl (lv_at hl 0 rfl) ?_
  refine lv_iconst (v := 3) hx hb dX5_newBox_1 (by decide) ?_
  refine lv_iand hx hb dX5_newBox_2 ?_
  refine lv_lookup (off := 40) (tgt := 43) hx hb dX5_newBox_3 (by decide) (by rcases hw with hw | hw <;> rw [hw] <;> decide) (by decide) ?_
  refine va_new (C := RX2) (T := TX2) (N := 1) (ci := 2) (fs := [.int 0]) hx hb (ly_2 h hb0) (fun _ z => z) tyX2 tyX2_ok hown (k_385 h hb0) (k_386 h hb0) (k_14 h hb0) hK hP hD hS hA rfl dfX2 (Nat.le_of_ble_eq_true rfl) (Nat.le_of_ble_eq_true rfl) dX5_newBox_43 (fun q H hP hD hS => ?_)
  have hP : va_P (dC, dI) vwCl [(q, .inr (2, [.int 0]))] H := hP
  have hD : va_D A [(q, .inr (2, [.int 0]))] := hD
  refine lv_dup hx hb dX5_newBox_46 rfl ?_
  refine lv_iload_n hx hb dX5_newBox_47 rfl (lv_at hl 1 rfl) ?_
  refine xm_of (wc := [(q, .inr (2, [.int 0]))]) (wo := []) (va_runI (As := [.int p1]) (rest := [.ref q]) ⟨hx, hb, hml, hown, xTs⟩ (c_discInit h q 0 p1 _) ⟨xB (n := 1) (k_389 h hb0) (k_14 h hb0) (k_387 h hb0) (by decide) rfl rfl rfl (by decide) (by decide), rfl, (k_388 h hb0)⟩ (xpMS (As := [.ref q, .int p1]) (wr := []) (wc := [(q, .inr (2, [.int 0]))]) hb0 hS hz (va_P.sub hP [] rfl) (va_P.sub hP [0] rfl) (va_D.sub (hwk _ hD) [0] rfl rfl)) rfl rfl hl.1 rfl (lv_room (Nat.le_of_ble_eq_true rfl)) dX5_newBox_48 ⟨(Nat.le_of_ble_eq_true rfl), (Nat.le_of_ble_eq_true rfl)⟩) hP hD hS hA [0] [] rfl rfl rfl (by decide) (fun r w1 H locs hΦ hP hD hS => ?_)
  obtain ⟨rfl, rfl⟩ := hΦ
  have hP : va_P (dC, dI) vwCl [(q, .inr (2, [.int p1]))] H := hP
  have hD : va_D A [(q, .inr (2, [.int p1]))] := hD
  exact W.aret hx hb hr (Or.inl ⟨_, rfl⟩) (Or.inr ⟨_, rfl⟩) (fun t ht _ => ⟨(some (.ref q)), _, rfl, ⟨q, rfl, rfl⟩, by rw [ht]; exact hP, hD, hS.F ht⟩) (fun q z => hS.2.2 q z) dX5_newBox_51
set_option maxHeartbeats 4000000 in
set_option maxRecDepth 100000 in
theorem c_bstore_n {l : Launch} {s0 : State} {a0 : Array Value} {dC : Nat → ClassId} {dI : Nat → Nat → Nat} {cA : Nat → ClassId} (h : xC l s0 a0 dC dI cA) (br pl : Nat) (z1 z2 z3 x : Int32) (f : Nat → Option Nat) (sz : Nat) (hi : vp_in x 19) : Met l yX1_store [Cond.code yX1_store cX1_store 3 none] ({ frames := 0, cells := 0, slots := 0, locals := 0 } : Room) (xPM s0 (dC, dI) [.ref br, .int x, .null] [(br, .inr (1, [.ref pl, .int z1, .int z2, .int z3]))] [(pl, .inl (cA 8, 19, .inr (.inr (.inr (.inr f)))))] sz) (xQM (dC, dI) (va_A [(pl, .inl (cA 8, 19, .inr (.inr (.inr (.inr f)))))] sz) (fun r w1 => r = none ∧ w1 = [(pl, .inl (cA 8, 19, .inr (.inr (.inr (.inr (va_up f x.toNatClampNeg none))))))])) 0 0 (va_A [(pl, .inl (cA 8, 19, .inr (.inr (.inr (.inr f)))))] sz) := by
  refine Met.ofW (cc := cX1_store) (maxL := 3) (ret := none) (by decide) rfl ?_
  intro p e s m args below meth c s₁ B hml hv
  obtain ⟨rfl, rfl, hb0, hPr, hP, hD0⟩ := hv
  have hx := B.exec
  have hb := B.bytes
  have hr := B.returns
  have hown : s.vm.findClass RX1 = some m.cls := findClass_of_methodNamed B.named
  have hlocks := B.notSynchronized
  have hK := h.K hb0
  have hS : va_S (va_A [(pl, .inl (cA 8, 19, .inr (.inr (.inr (.inr f)))))] s.heap.size) s.heap s.heap [] := va_S.rf
  obtain ⟨A, hAe, hD, hA, hz, hRo, hwk, hnR⟩ := xM_start hb0 hPr hP hD0
  rw [hAe] at hS ⊢
  have hl := lv_entry ([.ref br, .int x, .null]) (n := 3) (Nat.le_of_ble_eq_true rfl)
  rw [lg_entry_eq]
  generalize (lg_sl ([.ref br, .int x, .null]) ++ List.replicate (3 - (lg_sl ([.ref br, .int x, .null])).length) Slot.unset).toArray = ls at hl ⊢
  have hl : lv_has ls 3 [(0, .ref br), (1, .int x), (2, .null)] := hl
  refine lv_aload_n hx hb dX1_store_0 rfl (lv_at hl 0 rfl) ?_
  refine va_get (D := (dC, dI)) (ci := 1) (v := .ref pl) (C := RX1) (T := TX1) (N := 4) hx hb (ly_1 h hb0) (fun _ z => z) hown hK (hRo _ _ hS) 0 rfl rfl 0 (by decide) (k_97 h hb0) (fun _ z => z) rfl dX1_store_1 ?_
  refine lv_iload_n hx hb dX1_store_4 rfl (lv_at hl 1 rfl) ?_
  refine lv_aload_nN hx hb dX1_store_5 rfl (lv_at hl 2 rfl) ?_
  refine va_astqN hx hb hK hP hD hS 0 8 rfl rfl hi dX1_store_6 (fun H locs hP hD hS => ?_)
  have hP : va_P (dC, dI) vwCl [(pl, .inl (cA 8, 19, .inr (.inr (.inr (.inr (va_up f x.toNatClampNeg none))))))] H := hP
  have hD : va_D A [(pl, .inl (cA 8, 19, .inr (.inr (.inr (.inr (va_up f x.toNatClampNeg none))))))] := hD
  exact W.vret hx hb hr (fun t ht _ => ⟨none, _, rfl, ⟨rfl, rfl⟩, by rw [ht]; exact hP, hD, hS.F ht⟩) (fun q z => hS.2.2 q z) dX1_store_7
set_option maxHeartbeats 4000000 in
set_option maxRecDepth 100000 in
theorem c_bstore_0 {l : Launch} {s0 : State} {a0 : Array Value} {dC : Nat → ClassId} {dI : Nat → Nat → Nat} {cA : Nat → ClassId} (h : xC l s0 a0 dC dI cA) (br pl : Nat) (z1 z2 z3 x : Int32) (f : Nat → Option Nat) (a : Nat) (v : Int32) (sz : Nat) (hi : vp_in x 19) : Met l yX1_store [Cond.code yX1_store cX1_store 3 none] ({ frames := 0, cells := 0, slots := 0, locals := 0 } : Room) (xPM s0 (dC, dI) [.ref br, .int x, .ref a] [(br, .inr (1, [.ref pl, .int z1, .int z2, .int z3]))] [(pl, .inl (cA 8, 19, .inr (.inr (.inr (.inr f))))), (a, .inr (0, [.int v]))] sz) (xQM (dC, dI) (va_A [(pl, .inl (cA 8, 19, .inr (.inr (.inr (.inr f))))), (a, .inr (0, [.int v]))] sz) (fun r w1 => r = none ∧ w1 = [(pl, .inl (cA 8, 19, .inr (.inr (.inr (.inr (va_up f x.toNatClampNeg (some a))))))), (a, .inr (0, [.int v]))])) 0 0 (va_A [(pl, .inl (cA 8, 19, .inr (.inr (.inr (.inr f))))), (a, .inr (0, [.int v]))] sz) := by
  refine Met.ofW (cc := cX1_store) (maxL := 3) (ret := none) (by decide) rfl ?_
  intro p e s m args below meth c s₁ B hml hv
  obtain ⟨rfl, rfl, hb0, hPr, hP, hD0⟩ := hv
  have hx := B.exec
  have hb := B.bytes
  have hr := B.returns
  have hown : s.vm.findClass RX1 = some m.cls := findClass_of_methodNamed B.named
  have hlocks := B.notSynchronized
  have hK := h.K hb0
  have hS : va_S (va_A [(pl, .inl (cA 8, 19, .inr (.inr (.inr (.inr f))))), (a, .inr (0, [.int v]))] s.heap.size) s.heap s.heap [] := va_S.rf
  obtain ⟨A, hAe, hD, hA, hz, hRo, hwk, hnR⟩ := xM_start hb0 hPr hP hD0
  rw [hAe] at hS ⊢
  have hl := lv_entry ([.ref br, .int x, .ref a]) (n := 3) (Nat.le_of_ble_eq_true rfl)
  rw [lg_entry_eq]
  generalize (lg_sl ([.ref br, .int x, .ref a]) ++ List.replicate (3 - (lg_sl ([.ref br, .int x, .ref a])).length) Slot.unset).toArray = ls at hl ⊢
  have hl : lv_has ls 3 [(0, .ref br), (1, .int x), (2, .ref a)] := hl
  refine lv_aload_n hx hb dX1_store_0 rfl (lv_at hl 0 rfl) ?_
  refine va_get (D := (dC, dI)) (ci := 1) (v := .ref pl) (C := RX1) (T := TX1) (N := 4) hx hb (ly_1 h hb0) (fun _ z => z) hown hK (hRo _ _ hS) 0 rfl rfl 0 (by decide) (k_97 h hb0) (fun _ z => z) rfl dX1_store_1 ?_
  refine lv_iload_n hx hb dX1_store_4 rfl (lv_at hl 1 rfl) ?_
  refine lv_aload_n hx hb dX1_store_5 rfl (lv_at hl 2 rfl) ?_
  refine va_astq (r := (RX0, TX0, 1)) hx hb hK hP hD hS 0 8 1 0 rfl rfl rfl rfl hi dX1_store_6 (fun H locs hP hD hS => ?_)
  have hP : va_P (dC, dI) vwCl [(pl, .inl (cA 8, 19, .inr (.inr (.inr (.inr (va_up f x.toNatClampNeg (some a))))))), (a, .inr (0, [.int v]))] H := hP
  have hD : va_D A [(pl, .inl (cA 8, 19, .inr (.inr (.inr (.inr (va_up f x.toNatClampNeg (some a))))))), (a, .inr (0, [.int v]))] := hD
  exact W.vret hx hb hr (fun t ht _ => ⟨none, _, rfl, ⟨rfl, rfl⟩, by rw [ht]; exact hP, hD, hS.F ht⟩) (fun q z => hS.2.2 q z) dX1_store_7
set_option maxHeartbeats 4000000 in
set_option maxRecDepth 100000 in
theorem c_bstore_2 {l : Launch} {s0 : State} {a0 : Array Value} {dC : Nat → ClassId} {dI : Nat → Nat → Nat} {cA : Nat → ClassId} (h : xC l s0 a0 dC dI cA) (br pl : Nat) (z1 z2 z3 x : Int32) (f : Nat → Option Nat) (a : Nat) (v : Int32) (sz : Nat) (hi : vp_in x 19) : Met l yX1_store [Cond.code yX1_store cX1_store 3 none] ({ frames := 0, cells := 0, slots := 0, locals := 0 } : Room) (xPM s0 (dC, dI) [.ref br, .int x, .ref a] [(br, .inr (1, [.ref pl, .int z1, .int z2, .int z3]))] [(pl, .inl (cA 8, 19, .inr (.inr (.inr (.inr f))))), (a, .inr (2, [.int v]))] sz) (xQM (dC, dI) (va_A [(pl, .inl (cA 8, 19, .inr (.inr (.inr (.inr f))))), (a, .inr (2, [.int v]))] sz) (fun r w1 => r = none ∧ w1 = [(pl, .inl (cA 8, 19, .inr (.inr (.inr (.inr (va_up f x.toNatClampNeg (some a))))))), (a, .inr (2, [.int v]))])) 0 0 (va_A [(pl, .inl (cA 8, 19, .inr (.inr (.inr (.inr f))))), (a, .inr (2, [.int v]))] sz) := by
  refine Met.ofW (cc := cX1_store) (maxL := 3) (ret := none) (by decide) rfl ?_
  intro p e s m args below meth c s₁ B hml hv
  obtain ⟨rfl, rfl, hb0, hPr, hP, hD0⟩ := hv
  have hx := B.exec
  have hb := B.bytes
  have hr := B.returns
  have hown : s.vm.findClass RX1 = some m.cls := findClass_of_methodNamed B.named
  have hlocks := B.notSynchronized
  have hK := h.K hb0
  have hS : va_S (va_A [(pl, .inl (cA 8, 19, .inr (.inr (.inr (.inr f))))), (a, .inr (2, [.int v]))] s.heap.size) s.heap s.heap [] := va_S.rf
  obtain ⟨A, hAe, hD, hA, hz, hRo, hwk, hnR⟩ := xM_start hb0 hPr hP hD0
  rw [hAe] at hS ⊢
  have hl := lv_entry ([.ref br, .int x, .ref a]) (n := 3) (Nat.le_of_ble_eq_true rfl)
  rw [lg_entry_eq]
  generalize (lg_sl ([.ref br, .int x, .ref a]) ++ List.replicate (3 - (lg_sl ([.ref br, .int x, .ref a])).length) Slot.unset).toArray = ls at hl ⊢
  have hl : lv_has ls 3 [(0, .ref br), (1, .int x), (2, .ref a)] := hl
  refine lv_aload_n hx hb dX1_store_0 rfl (lv_at hl 0 rfl) ?_
  refine va_get (D := (dC, dI)) (ci := 1) (v := .ref pl) (C := RX1) (T := TX1) (N := 4) hx hb (ly_1 h hb0) (fun _ z => z) hown hK (hRo _ _ hS) 0 rfl rfl 0 (by decide) (k_97 h hb0) (fun _ z => z) rfl dX1_store_1 ?_
  refine lv_iload_n hx hb dX1_store_4 rfl (lv_at hl 1 rfl) ?_
  refine lv_aload_n hx hb dX1_store_5 rfl (lv_at hl 2 rfl) ?_
  refine va_astqO (r := (RX2, TX2, 1)) hx hb hK hP hD hS 0 8 1 2 rfl rfl (k_656 h hb0) rfl rfl hi dX1_store_6 (fun H locs hP hD hS => ?_)
  have hP : va_P (dC, dI) vwCl [(pl, .inl (cA 8, 19, .inr (.inr (.inr (.inr (va_up f x.toNatClampNeg (some a))))))), (a, .inr (2, [.int v]))] H := hP
  have hD : va_D A [(pl, .inl (cA 8, 19, .inr (.inr (.inr (.inr (va_up f x.toNatClampNeg (some a))))))), (a, .inr (2, [.int v]))] := hD
  exact W.vret hx hb hr (fun t ht _ => ⟨none, _, rfl, ⟨rfl, rfl⟩, by rw [ht]; exact hP, hD, hS.F ht⟩) (fun q z => hS.2.2 q z) dX1_store_7
set_option maxHeartbeats 4000000 in
set_option maxRecDepth 100000 in
theorem c_put_n {l : Launch} {s0 : State} {a0 : Array Value} {dC : Nat → ClassId} {dI : Nat → Nat → Nat} {cA : Nat → ClassId} (h : xC l s0 a0 dC dI cA) (b gr br : Nat) (wr ca : Int32) (ro pl : Nat) (z1 z2 z3 p1 p2 p3 p4 : Int32) (f : Nat → Option Nat) (sz : Nat) (hm : z1 = 0 ∨ z1 = 1) (ht : ¬ z1 = 0) (hp : ¬ p1 = 0) (h0 : ¬ p2 < 0) (h1 : p2 < z3) (hi : vp_in p2 19) (hw : p3 &&& 3 = 0) : Met l yX5_put [Cond.code yX5_put cX5_put 6 (some .int)] ({ frames := 4, cells := 0, slots := 0, locals := 160 } : Room) (xPM s0 (dC, dI) [.ref b, .int p1, .int p2, .int p3, .int p4] [(br, .inr (1, [.ref pl, .int z1, .int z2, .int z3]))] [(b, .inr (5, [.ref ro, .ref gr, .ref br, .int wr, .int ca])), (pl, .inl (cA 8, 19, .inr (.inr (.inr (.inr f)))))] sz) (xQM (dC, dI) (va_A [(b, .inr (5, [.ref ro, .ref gr, .ref br, .int wr, .int ca])), (pl, .inl (cA 8, 19, .inr (.inr (.inr (.inr f)))))] sz) (fun r w1 => r = some (.int (ca + 1)) ∧ w1 = [(b, .inr (5, [.ref ro, .ref gr, .ref br, .int wr, .int (ca + 1)])), (pl, .inl (cA 8, 19, .inr (.inr (.inr (.inr (va_up f p2.toNatClampNeg none))))))])) 0 0 (va_A [(b, .inr (5, [.ref ro, .ref gr, .ref br, .int wr, .int ca])), (pl, .inl (cA 8, 19, .inr (.inr (.inr (.inr f)))))] sz) := by
  refine Met.ofW (cc := cX5_put) (maxL := 6) (ret := (some .int)) (by decide) rfl ?_
  intro p e s m args below meth c s₁ B hml hv
  obtain ⟨rfl, rfl, hb0, hPr, hP, hD0⟩ := hv
  have hx := B.exec
  have hb := B.bytes
  have hr := B.returns
  have hown : s.vm.findClass RX5 = some m.cls := findClass_of_methodNamed B.named
  have hlocks := B.notSynchronized
  have hK := h.K hb0
  have hS : va_S (va_A [(b, .inr (5, [.ref ro, .ref gr, .ref br, .int wr, .int ca])), (pl, .inl (cA 8, 19, .inr (.inr (.inr (.inr f)))))] s.heap.size) s.heap s.heap [] := va_S.rf
  obtain ⟨A, hAe, hD, hA, hz, hRo, hwk, hnR⟩ := xM_start hb0 hPr hP hD0
  rw [hAe] at hS ⊢
  have hl := lv_entry ([.ref b, .int p1, .int p2, .int p3, .int p4]) (n := 6) (Nat.le_of_ble_eq_true rfl)
  rw [lg_entry_eq]
  generalize (lg_sl ([.ref b, .int p1, .int p2, .int p3, .int p4]) ++ List.replicate (6 - (lg_sl ([.ref b, .int p1, .int p2, .int p3, .int p4])).length) Slot.unset).toArray = ls at hl ⊢
  have hl : lv_has ls 6 [(0, .ref b), (1, .int p1), (2, .int p2), (3, .int p3), (4, .int p4)] := hl
  refine lv_aload_n hx hb dX5_put_0 rfl (lv_at hl 0 rfl) ?_
  refine va_get (D := (dC, dI)) (ci := 5) (v := .ref br) (C := RX5) (T := TX5) (N := 5) hx hb (ly_5 h hb0) (fun _ z => z) hown hK hP 0 rfl rfl 2 (by decide) (k_112 h hb0) (fun _ z => z) rfl dX5_put_1 ?_
  refine xr_1 (va_runV (As := []) (rest := []) ⟨hx, hb, hml, hown, xTs⟩ (c_bisMade h br pl z1 z2 z3 hm) ⟨xB (n := 0) (k_364 h hb0) (k_4 h hb0) (k_361 h hb0) (by decide) rfl rfl rfl (by decide) (by decide), (k_362 h hb0), (k_363 h hb0)⟩ (xpV hb0 hS hz (va_P.sub (hRo _ _ hS) [0] rfl) (va_recv hK (hRo _ _ hS) (ci := 1) (q0 := 0) rfl rfl)) rfl rfl hl.1 rfl (lv_room (Nat.le_of_ble_eq_true rfl)) dX5_put_4 ⟨(Nat.le_of_ble_eq_true rfl), (Nat.le_of_ble_eq_true rfl)⟩) ?_
  refine lv_if_eq (tgt := 18) hx hb dX5_put_7 (by decide) (fun c_1 => ?_) (fun c_1 => ?_)
  · exact absurd c_1 ht
  · refine lv_iload_n hx hb dX5_put_10 rfl (lv_at hl 1 rfl) ?_
    refine lv_if_eq (tgt := 18) hx hb dX5_put_11 (by decide) (fun c_2 => ?_) (fun c_2 => ?_)
    · exact absurd c_2 hp
    · refine lv_iconst (v := 1) hx hb dX5_put_14 (by decide) ?_
      refine lv_goto (tgt := 19) hx hb dX5_put_15 (by decide) ?_
      refine xr_0 (va_runS (As := [.int 1]) (rest := []) ⟨hx, hb, hml, hown, xTs⟩ (c_needThere h _ (by decide)) ⟨xB (n := 1) (k_140 h hb0) (k_1 h hb0) (k_138 h hb0) (by decide) rfl rfl rfl (by decide) (by decide), (k_139 h hb0)⟩ (xpS hb0 hS hz (va_P.sub (hRo _ _ hS) [] rfl)) rfl rfl hl.1 rfl (lv_room (Nat.le_of_ble_eq_true rfl)) dX5_put_19 ⟨(Nat.le_of_ble_eq_true rfl), (Nat.le_of_ble_eq_true rfl)⟩) ?_
      refine lv_iload_n hx hb dX5_put_22 rfl (lv_at hl 2 rfl) ?_
      refine lv_aload_n hx hb dX5_put_23 rfl (lv_at hl 0 rfl) ?_
      refine va_get (D := (dC, dI)) (ci := 5) (v := .ref br) (C := RX5) (T := TX5) (N := 5) hx hb (ly_5 h hb0) (fun _ z => z) hown hK hP 0 rfl rfl 2 (by decide) (k_112 h hb0) (fun _ z => z) rfl dX5_put_24 ?_
      refine xr_1 (va_runV (As := []) (rest := [.int p2]) ⟨hx, hb, hml, hown, xTs⟩ (c_bplaceCount h br pl z1 z2 z3) ⟨xB (n := 0) (k_368 h hb0) (k_4 h hb0) (k_365 h hb0) (by decide) rfl rfl rfl (by decide) (by decide), (k_366 h hb0), (k_367 h hb0)⟩ (xpV hb0 hS hz (va_P.sub (hRo _ _ hS) [0] rfl) (va_recv hK (hRo _ _ hS) (ci := 1) (q0 := 0) rfl rfl)) rfl rfl hl.1 rfl (lv_room (Nat.le_of_ble_eq_true rfl)) dX5_put_27 ⟨(Nat.le_of_ble_eq_true rfl), (Nat.le_of_ble_eq_true rfl)⟩) ?_
      refine xr_0 (va_runS (As := [.int p2, .int z3]) (rest := []) ⟨hx, hb, hml, hown, xTs⟩ (c_needPlace h _ _ h0 h1) ⟨xB (n := 2) (k_232 h hb0) (k_1 h hb0) (k_230 h hb0) (by decide) rfl rfl rfl (by decide) (by decide), (k_231 h hb0)⟩ (xpS hb0 hS hz (va_P.sub (hRo _ _ hS) [] rfl)) rfl rfl hl.1 rfl (lv_room (Nat.le_of_ble_eq_true rfl)) dX5_put_30 ⟨(Nat.le_of_ble_eq_true rfl), (Nat.le_of_ble_eq_true rfl)⟩) ?_
      refine lv_iload_n hx hb dX5_put_33 rfl (lv_at hl 3 rfl) ?_
      refine lv_iload hx hb dX5_put_34 (lv_at hl 4 rfl) ?_
      refine xr_1 (va_runS (As := [.int p3, .int p4]) (rest := []) ⟨hx, hb, hml, hown, xTs⟩ (c_newBox_n h _ _ hw) ⟨xB (n := 2) (k_371 h hb0) (k_1 h hb0) (k_369 h hb0) (by decide) rfl rfl rfl (by decide) (by decide), (k_370 h hb0)⟩ (xpS hb0 hS hz (va_P.sub (hRo _ _ hS) [] rfl)) rfl rfl hl.1 rfl (lv_room (Nat.le_of_ble_eq_true rfl)) dX5_put_36 ⟨(Nat.le_of_ble_eq_true rfl), (Nat.le_of_ble_eq_true rfl)⟩) ?_
      refine lv_astoreN (lv' := [(5, .null), (0, .ref b), (1, .int p1), (2, .int p2), (3, .int p3), (4, .int p4)]) hx hb dX5_put_39 hl (by decide) rfl (fun ls hl => ?_)
      refine lv_aload_n hx hb dX5_put_41 rfl (lv_at hl 1 rfl) ?_
      refine va_get (D := (dC, dI)) (ci := 5) (v := .ref br) (C := RX5) (T := TX5) (N := 5) hx hb (ly_5 h hb0) (fun _ z => z) hown hK hP 0 rfl rfl 2 (by decide) (k_112 h hb0) (fun _ z => z) rfl dX5_put_42 ?_
      refine lv_aloadN hx hb dX5_put_45 (lv_at hl 0 rfl) ?_
      refine xr_1 (va_runV (As := [.null]) (rest := []) ⟨hx, hb, hml, hown, xTs⟩ (c_takes_n h br pl z1 z2 z3) ⟨xB (n := 1) (k_396 h hb0) (k_4 h hb0) (k_393 h hb0) (by decide) rfl rfl rfl (by decide) (by decide), (k_394 h hb0), (k_395 h hb0)⟩ (xpV hb0 hS hz (va_P.sub (hRo _ _ hS) [0] rfl) (va_recv hK (hRo _ _ hS) (ci := 1) (q0 := 0) rfl rfl)) rfl rfl hl.1 rfl (lv_room (Nat.le_of_ble_eq_true rfl)) dX5_put_47 ⟨(Nat.le_of_ble_eq_true rfl), (Nat.le_of_ble_eq_true rfl)⟩) ?_
      refine lv_if_ne (tgt := 63) hx hb dX5_put_50 (by decide) (fun c_3 => ?_) (fun c_3 => ?_)
      · refine lv_aload_n hx hb dX5_put_63 rfl (lv_at hl 1 rfl) ?_
        refine va_get (D := (dC, dI)) (ci := 5) (v := .ref br) (C := RX5) (T := TX5) (N := 5) hx hb (ly_5 h hb0) (fun _ z => z) hown hK hP 0 rfl rfl 2 (by decide) (k_112 h hb0) (fun _ z => z) rfl dX5_put_64 ?_
        refine lv_iload_n hx hb dX5_put_67 rfl (lv_at hl 3 rfl) ?_
        refine lv_aloadN hx hb dX5_put_68 (lv_at hl 0 rfl) ?_
        refine xm_of (wc := [(pl, .inl (cA 8, 19, .inr (.inr (.inr (.inr f)))))]) (wo := [(b, .inr (5, [.ref ro, .ref gr, .ref br, .int wr, .int ca]))]) (va_runV (As := [.int p2, .null]) (rest := []) ⟨hx, hb, hml, hown, xTs⟩ (c_bstore_n h br pl z1 z2 z3 p2 f _ hi) ⟨xB (n := 2) (k_417 h hb0) (k_4 h hb0) (k_414 h hb0) (by decide) rfl rfl rfl (by decide) (by decide), (k_415 h hb0), (k_416 h hb0)⟩ (xpMV (wr := [(br, .inr (1, [.ref pl, .int z1, .int z2, .int z3]))]) (wc := [(pl, .inl (cA 8, 19, .inr (.inr (.inr (.inr f)))))]) hb0 hS hz (va_P.sub (hRo _ _ hS) [0] rfl) (va_P.sub hP [1] rfl) (va_D.sub (xDD (xDl hD0) hD hz hnR) [0, 2] rfl rfl) (va_recv hK (hRo _ _ hS) (ci := 1) (q0 := 0) rfl rfl)) rfl rfl hl.1 rfl (lv_room (Nat.le_of_ble_eq_true rfl)) dX5_put_70 ⟨(Nat.le_of_ble_eq_true rfl), (Nat.le_of_ble_eq_true rfl)⟩) hP hD hS hA [1] [0] rfl rfl rfl (by decide) (fun r w1 H locs hΦ hP hD hS => ?_)
        obtain ⟨rfl, rfl⟩ := hΦ
        have hP : va_P (dC, dI) vwCl [(b, .inr (5, [.ref ro, .ref gr, .ref br, .int wr, .int ca])), (pl, .inl (cA 8, 19, .inr (.inr (.inr (.inr (va_up f p2.toNatClampNeg none))))))] H := hP
        have hD : va_D A [(b, .inr (5, [.ref ro, .ref gr, .ref br, .int wr, .int ca])), (pl, .inl (cA 8, 19, .inr (.inr (.inr (.inr (va_up f p2.toNatClampNeg none))))))] := hD
        refine lv_aload_n hx hb dX5_put_73 rfl (lv_at hl 1 rfl) ?_
        refine lv_dup hx hb dX5_put_74 rfl ?_
        refine va_get (D := (dC, dI)) (ci := 5) (v := .int ca) (C := RX5) (T := TX5) (N := 5) hx hb (ly_5 h hb0) (fun _ z => z) hown hK hP 0 rfl rfl 4 (by decide) (k_114 h hb0) (fun _ z => z) rfl dX5_put_75 ?_
        refine lv_iconst (v := 1) hx hb dX5_put_78 (by decide) ?_
        refine lv_iadd hx hb dX5_put_79 ?_
        refine va_put (D := (dC, dI)) (ci := 5) (v := .int (ca + 1)) (ty := .int) (C := RX5) (T := TX5) (N := 5) hx hb (ly_5 h hb0) (fun _ z => z) tyX5 tyX5_ok nmX5 hown hK hP hD hS 0 rfl rfl 4 (by decide) (k_114 h hb0) (fun _ z => z) rfl (by decide +kernel) rfl rfl (Nat.le_of_ble_eq_true rfl) dX5_put_80 (fun H locs hP hD hS => ?_)
        have hP : va_P (dC, dI) vwCl [(b, .inr (5, [.ref ro, .ref gr, .ref br, .int wr, .int (ca + 1)])), (pl, .inl (cA 8, 19, .inr (.inr (.inr (.inr (va_up f p2.toNatClampNeg none))))))] H := hP
        have hD : va_D A [(b, .inr (5, [.ref ro, .ref gr, .ref br, .int wr, .int (ca + 1)])), (pl, .inl (cA 8, 19, .inr (.inr (.inr (.inr (va_up f p2.toNatClampNeg none))))))] := hD
        refine lv_aload_n hx hb dX5_put_83 rfl (lv_at hl 1 rfl) ?_
        refine va_get (D := (dC, dI)) (ci := 5) (v := .int (ca + 1)) (C := RX5) (T := TX5) (N := 5) hx hb (ly_5 h hb0) (fun _ z => z) hown hK hP 0 rfl rfl 4 (by decide) (k_114 h hb0) (fun _ z => z) rfl dX5_put_84 ?_
        exact W.iret hx hb hr (fun t ht _ => ⟨(some (.int (ca + 1))), _, rfl, ⟨rfl, rfl⟩, by rw [ht]; exact hP, hD, hS.F ht⟩) (fun q z => hS.2.2 q z) dX5_put_87
      · exact absurd c_3 (by decide)
set_option maxHeartbeats 4000000 in
set_option maxRecDepth 100000 in
theorem t_put_1 {l : Launch} {s0 : State} {a0 : Array Value} {dC : Nat → ClassId} {dI : Nat → Nat → Nat} {cA : Nat → ClassId} (h : xC l s0 a0 dC dI cA) (b gr br : Nat) (wr ca : Int32) (ro pl : Nat) (z1 z2 z3 p1 p2 p3 p4 : Int32) (f : Nat → Option Nat) (hm : z1 = 0 ∨ z1 = 1) (ht : z1 = 0) : xt_Met l yX5_put [Cond.code yX5_put cX5_put 6 (some .int)] ({ frames := 8, cells := 1, slots := 8, locals := 140 } : Room) (xP s0 (dC, dI) [.ref b, .int p1, .int p2, .int p3, .int p4] [(b, .inr (5, [.ref ro, .ref gr, .ref br, .int wr, .int ca])), (br, .inr (1, [.ref pl, .int z1, .int z2, .int z3]))]) "java/lang/NullPointerException" 1 8 := by
  refine xt_ofW (cc := cX5_put) (maxL := 6) (ret := (some .int)) (by decide) rfl ?_
  intro p e s m args below meth c s₁ B hml hout hv
  obtain ⟨rfl, hb0, hP⟩ := hv
  have hx := B.exec
  have hb := B.bytes
  have hr := B.returns
  have hown : s.vm.findClass RX5 = some m.cls := findClass_of_methodNamed B.named
  have hlocks := B.notSynchronized
  have hK := h.K hb0
  have hS : va_S (fun _ : Nat => False) s.heap s.heap [] := va_S.rf
  have hz : ∀ q : Nat, (fun _ : Nat => False) q → s0.heap.size ≤ q := fun _ z => z.elim
  have hl := lv_entry ([.ref b, .int p1, .int p2, .int p3, .int p4]) (n := 6) (Nat.le_of_ble_eq_true rfl)
  rw [lg_entry_eq]
  generalize (lg_sl ([.ref b, .int p1, .int p2, .int p3, .int p4]) ++ List.replicate (6 - (lg_sl ([.ref b, .int p1, .int p2, .int p3, .int p4])).length) Slot.unset).toArray = ls at hl ⊢
  have hl : lv_has ls 6 [(0, .ref b), (1, .int p1), (2, .int p2), (3, .int p3), (4, .int p4)] := hl
  refine lv_aload_n hx hb dX5_put_0 rfl (lv_at hl 0 rfl) ?_
  refine va_get (D := (dC, dI)) (ci := 5) (v := .ref br) (C := RX5) (T := TX5) (N := 5) hx hb (ly_5 h hb0) (fun _ z => z) hown hK hP 0 rfl rfl 2 (by decide) (k_112 h hb0) (fun _ z => z) rfl dX5_put_1 ?_
  refine xr_1 (va_runV (As := []) (rest := []) ⟨hx, hb, hml, hown, xTs⟩ (c_bisMade h br pl z1 z2 z3 hm) ⟨xB (n := 0) (k_364 h hb0) (k_4 h hb0) (k_361 h hb0) (by decide) rfl rfl rfl (by decide) (by decide), (k_362 h hb0), (k_363 h hb0)⟩ (xpV hb0 hS hz (va_P.sub hP [1] rfl) (va_recv hK hP (ci := 1) (q0 := 1) rfl rfl)) rfl rfl hl.1 rfl (lv_room (Nat.le_of_ble_eq_true rfl)) dX5_put_4 ⟨(Nat.le_of_ble_eq_true rfl), (Nat.le_of_ble_eq_true rfl)⟩) ?_
  refine lv_if_eq (tgt := 18) hx hb dX5_put_7 (by decide) (fun c_1 => ?_) (fun c_1 => ?_)
  · refine lv_iconst (v := 0) hx hb dX5_put_18 (by decide) ?_
    exact xt_callS (As := [.int 0]) (rest := []) ⟨hx, hb, hml, hown, xTs⟩ (t_needThere h _ rfl) ⟨xB (n := 1) (k_140 h hb0) (k_1 h hb0) (k_138 h hb0) (by decide) rfl rfl rfl (by decide) (by decide), (k_139 h hb0)⟩ (xpS hb0 hS hz (va_P.sub hP [] rfl)) rfl rfl hl.1 rfl (lv_room (Nat.le_of_ble_eq_true rfl)) dX5_put_19 ⟨(Nat.le_of_ble_eq_true rfl), (Nat.le_of_ble_eq_true rfl)⟩ (fun q ce H1 h1 h2 h3 h4 h5 => xt_out hout hlocks h1 h2 h3 (Nat.le_of_ble_eq_true rfl) (Nat.le_of_ble_eq_true rfl))
  · exact absurd ht c_1
set_option maxHeartbeats 4000000 in
set_option maxRecDepth 100000 in
theorem t_put_2 {l : Launch} {s0 : State} {a0 : Array Value} {dC : Nat → ClassId} {dI : Nat → Nat → Nat} {cA : Nat → ClassId} (h : xC l s0 a0 dC dI cA) (b gr br : Nat) (wr ca : Int32) (ro pl : Nat) (z1 z2 z3 p1 p2 p3 p4 : Int32) (f : Nat → Option Nat) (hm : z1 = 0 ∨ z1 = 1) (ht : ¬ z1 = 0) (hp : p1 = 0) : xt_Met l yX5_put [Cond.code yX5_put cX5_put 6 (some .int)] ({ frames := 8, cells := 1, slots := 8, locals := 140 } : Room) (xP s0 (dC, dI) [.ref b, .int p1, .int p2, .int p3, .int p4] [(b, .inr (5, [.ref ro, .ref gr, .ref br, .int wr, .int ca])), (br, .inr (1, [.ref pl, .int z1, .int z2, .int z3]))]) "java/lang/NullPointerException" 1 8 := by
  refine xt_ofW (cc := cX5_put) (maxL := 6) (ret := (some .int)) (by decide) rfl ?_
  intro p e s m args below meth c s₁ B hml hout hv
  obtain ⟨rfl, hb0, hP⟩ := hv
  have hx := B.exec
  have hb := B.bytes
  have hr := B.returns
  have hown : s.vm.findClass RX5 = some m.cls := findClass_of_methodNamed B.named
  have hlocks := B.notSynchronized
  have hK := h.K hb0
  have hS : va_S (fun _ : Nat => False) s.heap s.heap [] := va_S.rf
  have hz : ∀ q : Nat, (fun _ : Nat => False) q → s0.heap.size ≤ q := fun _ z => z.elim
  have hl := lv_entry ([.ref b, .int p1, .int p2, .int p3, .int p4]) (n := 6) (Nat.le_of_ble_eq_true rfl)
  rw [lg_entry_eq]
  generalize (lg_sl ([.ref b, .int p1, .int p2, .int p3, .int p4]) ++ List.replicate (6 - (lg_sl ([.ref b, .int p1, .int p2, .int p3, .int p4])).length) Slot.unset).toArray = ls at hl ⊢
  have hl : lv_has ls 6 [(0, .ref b), (1, .int p1), (2, .int p2), (3, .int p3), (4, .int p4)] := hl
  refine lv_aload_n hx hb dX5_put_0 rfl (lv_at hl 0 rfl) ?_
  refine va_get (D := (dC, dI)) (ci := 5) (v := .ref br) (C := RX5) (T := TX5) (N := 5) hx hb (ly_5 h hb0) (fun _ z => z) hown hK hP 0 rfl rfl 2 (by decide) (k_112 h hb0) (fun _ z => z) rfl dX5_put_1 ?_
  refine xr_1 (va_runV (As := []) (rest := []) ⟨hx, hb, hml, hown, xTs⟩ (c_bisMade h br pl z1 z2 z3 hm) ⟨xB (n := 0) (k_364 h hb0) (k_4 h hb0) (k_361 h hb0) (by decide) rfl rfl rfl (by decide) (by decide), (k_362 h hb0), (k_363 h hb0)⟩ (xpV hb0 hS hz (va_P.sub hP [1] rfl) (va_recv hK hP (ci := 1) (q0 := 1) rfl rfl)) rfl rfl hl.1 rfl (lv_room (Nat.le_of_ble_eq_true rfl)) dX5_put_4 ⟨(Nat.le_of_ble_eq_true rfl), (Nat.le_of_ble_eq_true rfl)⟩) ?_
  refine lv_if_eq (tgt := 18) hx hb dX5_put_7 (by decide) (fun c_1 => ?_) (fun c_1 => ?_)
  · exact absurd c_1 ht
  · refine lv_iload_n hx hb dX5_put_10 rfl (lv_at hl 1 rfl) ?_
    refine lv_if_eq (tgt := 18) hx hb dX5_put_11 (by decide) (fun c_2 => ?_) (fun c_2 => ?_)
    · refine lv_iconst (v := 0) hx hb dX5_put_18 (by decide) ?_
      exact xt_callS (As := [.int 0]) (rest := []) ⟨hx, hb, hml, hown, xTs⟩ (t_needThere h _ rfl) ⟨xB (n := 1) (k_140 h hb0) (k_1 h hb0) (k_138 h hb0) (by decide) rfl rfl rfl (by decide) (by decide), (k_139 h hb0)⟩ (xpS hb0 hS hz (va_P.sub hP [] rfl)) rfl rfl hl.1 rfl (lv_room (Nat.le_of_ble_eq_true rfl)) dX5_put_19 ⟨(Nat.le_of_ble_eq_true rfl), (Nat.le_of_ble_eq_true rfl)⟩ (fun q ce H1 h1 h2 h3 h4 h5 => xt_out hout hlocks h1 h2 h3 (Nat.le_of_ble_eq_true rfl) (Nat.le_of_ble_eq_true rfl))
    · exact absurd hp c_2
set_option maxHeartbeats 4000000 in
set_option maxRecDepth 100000 in
theorem t_put_A {l : Launch} {s0 : State} {a0 : Array Value} {dC : Nat → ClassId} {dI : Nat → Nat → Nat} {cA : Nat → ClassId} (h : xC l s0 a0 dC dI cA) (b gr br : Nat) (wr ca : Int32) (ro pl : Nat) (z1 z2 z3 p1 p2 p3 p4 : Int32) (f : Nat → Option Nat) (hm : z1 = 0 ∨ z1 = 1) (ht : ¬ z1 = 0) (hp : ¬ p1 = 0) (hc : p2 < 0 ∨ ¬ p2 < z3) : xt_Met l yX5_put [Cond.code yX5_put cX5_put 6 (some .int)] ({ frames := 8, cells := 1, slots := 8, locals := 140 } : Room) (xP s0 (dC, dI) [.ref b, .int p1, .int p2, .int p3, .int p4] [(b, .inr (5, [.ref ro, .ref gr, .ref br, .int wr, .int ca])), (br, .inr (1, [.ref pl, .int z1, .int z2, .int z3]))]) "java/lang/ArrayIndexOutOfBoundsException" 1 8 := by
  refine xt_ofW (cc := cX5_put) (maxL := 6) (ret := (some .int)) (by decide) rfl ?_
  intro p e s m args below meth c s₁ B hml hout hv
  obtain ⟨rfl, hb0, hP⟩ := hv
  have hx := B.exec
  have hb := B.bytes
  have hr := B.returns
  have hown : s.vm.findClass RX5 = some m.cls := findClass_of_methodNamed B.named
  have hlocks := B.notSynchronized
  have hK := h.K hb0
  have hS : va_S (fun _ : Nat => False) s.heap s.heap [] := va_S.rf
  have hz : ∀ q : Nat, (fun _ : Nat => False) q → s0.heap.size ≤ q := fun _ z => z.elim
  have hl := lv_entry ([.ref b, .int p1, .int p2, .int p3, .int p4]) (n := 6) (Nat.le_of_ble_eq_true rfl)
  rw [lg_entry_eq]
  generalize (lg_sl ([.ref b, .int p1, .int p2, .int p3, .int p4]) ++ List.replicate (6 - (lg_sl ([.ref b, .int p1, .int p2, .int p3, .int p4])).length) Slot.unset).toArray = ls at hl ⊢
  have hl : lv_has ls 6 [(0, .ref b), (1, .int p1), (2, .int p2), (3, .int p3), (4, .int p4)] := hl
  refine lv_aload_n hx hb dX5_put_0 rfl (lv_at hl 0 rfl) ?_
  refine va_get (D := (dC, dI)) (ci := 5) (v := .ref br) (C := RX5) (T := TX5) (N := 5) hx hb (ly_5 h hb0) (fun _ z => z) hown hK hP 0 rfl rfl 2 (by decide) (k_112 h hb0) (fun _ z => z) rfl dX5_put_1 ?_
  refine xr_1 (va_runV (As := []) (rest := []) ⟨hx, hb, hml, hown, xTs⟩ (c_bisMade h br pl z1 z2 z3 hm) ⟨xB (n := 0) (k_364 h hb0) (k_4 h hb0) (k_361 h hb0) (by decide) rfl rfl rfl (by decide) (by decide), (k_362 h hb0), (k_363 h hb0)⟩ (xpV hb0 hS hz (va_P.sub hP [1] rfl) (va_recv hK hP (ci := 1) (q0 := 1) rfl rfl)) rfl rfl hl.1 rfl (lv_room (Nat.le_of_ble_eq_true rfl)) dX5_put_4 ⟨(Nat.le_of_ble_eq_true rfl), (Nat.le_of_ble_eq_true rfl)⟩) ?_
  refine lv_if_eq (tgt := 18) hx hb dX5_put_7 (by decide) (fun c_1 => ?_) (fun c_1 => ?_)
  · exact absurd c_1 ht
  · refine lv_iload_n hx hb dX5_put_10 rfl (lv_at hl 1 rfl) ?_
    refine lv_if_eq (tgt := 18) hx hb dX5_put_11 (by decide) (fun c_2 => ?_) (fun c_2 => ?_)
    · exact absurd c_2 hp
    · refine lv_iconst (v := 1) hx hb dX5_put_14 (by decide) ?_
      refine lv_goto (tgt := 19) hx hb dX5_put_15 (by decide) ?_
      refine xr_0 (va_runS (As := [.int 1]) (rest := []) ⟨hx, hb, hml, hown, xTs⟩ (c_needThere h _ (by decide)) ⟨xB (n := 1) (k_140 h hb0) (k_1 h hb0) (k_138 h hb0) (by decide) rfl rfl rfl (by decide) (by decide), (k_139 h hb0)⟩ (xpS hb0 hS hz (va_P.sub hP [] rfl)) rfl rfl hl.1 rfl (lv_room (Nat.le_of_ble_eq_true rfl)) dX5_put_19 ⟨(Nat.le_of_ble_eq_true rfl), (Nat.le_of_ble_eq_true rfl)⟩) ?_
      refine lv_iload_n hx hb dX5_put_22 rfl (lv_at hl 2 rfl) ?_
      refine lv_aload_n hx hb dX5_put_23 rfl (lv_at hl 0 rfl) ?_
      refine va_get (D := (dC, dI)) (ci := 5) (v := .ref br) (C := RX5) (T := TX5) (N := 5) hx hb (ly_5 h hb0) (fun _ z => z) hown hK hP 0 rfl rfl 2 (by decide) (k_112 h hb0) (fun _ z => z) rfl dX5_put_24 ?_
      refine xr_1 (va_runV (As := []) (rest := [.int p2]) ⟨hx, hb, hml, hown, xTs⟩ (c_bplaceCount h br pl z1 z2 z3) ⟨xB (n := 0) (k_368 h hb0) (k_4 h hb0) (k_365 h hb0) (by decide) rfl rfl rfl (by decide) (by decide), (k_366 h hb0), (k_367 h hb0)⟩ (xpV hb0 hS hz (va_P.sub hP [1] rfl) (va_recv hK hP (ci := 1) (q0 := 1) rfl rfl)) rfl rfl hl.1 rfl (lv_room (Nat.le_of_ble_eq_true rfl)) dX5_put_27 ⟨(Nat.le_of_ble_eq_true rfl), (Nat.le_of_ble_eq_true rfl)⟩) ?_
      exact xt_callS (As := [.int p2, .int z3]) (rest := []) ⟨hx, hb, hml, hown, xTs⟩ (t_needPlace h _ _ hc) ⟨xB (n := 2) (k_232 h hb0) (k_1 h hb0) (k_230 h hb0) (by decide) rfl rfl rfl (by decide) (by decide), (k_231 h hb0)⟩ (xpS hb0 hS hz (va_P.sub hP [] rfl)) rfl rfl hl.1 rfl (lv_room (Nat.le_of_ble_eq_true rfl)) dX5_put_30 ⟨(Nat.le_of_ble_eq_true rfl), (Nat.le_of_ble_eq_true rfl)⟩ (fun q ce H1 h1 h2 h3 h4 h5 => xt_out hout hlocks h1 h2 h3 (Nat.le_of_ble_eq_true rfl) (Nat.le_of_ble_eq_true rfl))
set_option maxHeartbeats 4000000 in
set_option maxRecDepth 100000 in
theorem c_put_f {l : Launch} {s0 : State} {a0 : Array Value} {dC : Nat → ClassId} {dI : Nat → Nat → Nat} {cA : Nat → ClassId} (h : xC l s0 a0 dC dI cA) (b gr br : Nat) (wr ca : Int32) (ro pl : Nat) (z1 z2 z3 p1 p2 p3 p4 : Int32) (f : Nat → Option Nat) (sz : Nat) (hm : z1 = 0 ∨ z1 = 1) (ht : ¬ z1 = 0) (hp : ¬ p1 = 0) (h0 : ¬ p2 < 0) (h1 : p2 < z3) (hi : vp_in p2 19) (hw : p3 &&& 3 = 1) (hd : z2 = 0) : Met l yX5_put [Cond.code yX5_put cX5_put 6 (some .int)] ({ frames := 4, cells := 1, slots := 1, locals := 160 } : Room) (xPM s0 (dC, dI) [.ref b, .int p1, .int p2, .int p3, .int p4] [(br, .inr (1, [.ref pl, .int z1, .int z2, .int z3]))] [(b, .inr (5, [.ref ro, .ref gr, .ref br, .int wr, .int ca])), (pl, .inl (cA 8, 19, .inr (.inr (.inr (.inr f)))))] sz) (xQM (dC, dI) (va_A [(b, .inr (5, [.ref ro, .ref gr, .ref br, .int wr, .int ca])), (pl, .inl (cA 8, 19, .inr (.inr (.inr (.inr f)))))] sz) (fun r w1 => ∃ q : Nat, r = some (.int (ca + 1)) ∧ w1 = [(b, .inr (5, [.ref ro, .ref gr, .ref br, .int wr, .int (ca + 1)])), (pl, .inl (cA 8, 19, .inr (.inr (.inr (.inr (va_up f p2.toNatClampNeg (some q))))))), (q, .inr (0, [.int p4]))])) 1 1 (va_A [(b, .inr (5, [.ref ro, .ref gr, .ref br, .int wr, .int ca])), (pl, .inl (cA 8, 19, .inr (.inr (.inr (.inr f)))))] sz) := by
  refine Met.ofW (cc := cX5_put) (maxL := 6) (ret := (some .int)) (by decide) rfl ?_
  intro p e s m args below meth c s₁ B hml hv
  obtain ⟨rfl, rfl, hb0, hPr, hP, hD0⟩ := hv
  have hx := B.exec
  have hb := B.bytes
  have hr := B.returns
  have hown : s.vm.findClass RX5 = some m.cls := findClass_of_methodNamed B.named
  have hlocks := B.notSynchronized
  have hK := h.K hb0
  have hS : va_S (va_A [(b, .inr (5, [.ref ro, .ref gr, .ref br, .int wr, .int ca])), (pl, .inl (cA 8, 19, .inr (.inr (.inr (.inr f)))))] s.heap.size) s.heap s.heap [] := va_S.rf
  obtain ⟨A, hAe, hD, hA, hz, hRo, hwk, hnR⟩ := xM_start hb0 hPr hP hD0
  rw [hAe] at hS ⊢
  have hl := lv_entry ([.ref b, .int p1, .int p2, .int p3, .int p4]) (n := 6) (Nat.le_of_ble_eq_true rfl)
  rw [lg_entry_eq]
  generalize (lg_sl ([.ref b, .int p1, .int p2, .int p3, .int p4]) ++ List.replicate (6 - (lg_sl ([.ref b, .int p1, .int p2, .int p3, .int p4])).length) Slot.unset).toArray = ls at hl ⊢
  have hl : lv_has ls 6 [(0, .ref b), (1, .int p1), (2, .int p2), (3, .int p3), (4, .int p4)] := hl
  refine lv_aload_n hx hb dX5_put_0 rfl (lv_at hl 0 rfl) ?_
  refine va_get (D := (dC, dI)) (ci := 5) (v := .ref br) (C := RX5) (T := TX5) (N := 5) hx hb (ly_5 h hb0) (fun _ z => z) hown hK hP 0 rfl rfl 2 (by decide) (k_112 h hb0) (fun _ z => z) rfl dX5_put_1 ?_
  refine xr_1 (va_runV (As := []) (rest := []) ⟨hx, hb, hml, hown, xTs⟩ (c_bisMade h br pl z1 z2 z3 hm) ⟨xB (n := 0) (k_364 h hb0) (k_4 h hb0) (k_361 h hb0) (by decide) rfl rfl rfl (by decide) (by decide), (k_362 h hb0), (k_363 h hb0)⟩ (xpV hb0 hS hz (va_P.sub (hRo _ _ hS) [0] rfl) (va_recv hK (hRo _ _ hS) (ci := 1) (q0 := 0) rfl rfl)) rfl rfl hl.1 rfl (lv_room (Nat.le_of_ble_eq_true rfl)) dX5_put_4 ⟨(Nat.le_of_ble_eq_true rfl), (Nat.le_of_ble_eq_true rfl)⟩) ?_
  refine lv_if_eq (tgt := 18) hx hb dX5_put_7 (by decide) (fun c_1 => ?_) (fun c_1 => ?_)
  · exact absurd c_1 ht
  · refine lv_iload_n hx hb dX5_put_10 rfl (lv_at hl 1 rfl) ?_
    refine lv_if_eq (tgt := 18) hx hb dX5_put_11 (by decide) (fun c_2 => ?_) (fun c_2 => ?_)
    · exact absurd c_2 hp
    · refine lv_iconst (v := 1) hx hb dX5_put_14 (by decide) ?_
      refine lv_goto (tgt := 19) hx hb dX5_put_15 (by decide) ?_
      refine xr_0 (va_runS (As := [.int 1]) (rest := []) ⟨hx, hb, hml, hown, xTs⟩ (c_needThere h _ (by decide)) ⟨xB (n := 1) (k_140 h hb0) (k_1 h hb0) (k_138 h hb0) (by decide) rfl rfl rfl (by decide) (by decide), (k_139 h hb0)⟩ (xpS hb0 hS hz (va_P.sub (hRo _ _ hS) [] rfl)) rfl rfl hl.1 rfl (lv_room (Nat.le_of_ble_eq_true rfl)) dX5_put_19 ⟨(Nat.le_of_ble_eq_true rfl), (Nat.le_of_ble_eq_true rfl)⟩) ?_
      refine lv_iload_n hx hb dX5_put_22 rfl (lv_at hl 2 rfl) ?_
      refine lv_aload_n hx hb dX5_put_23 rfl (lv_at hl 0 rfl) ?_
      refine va_get (D := (dC, dI)) (ci := 5) (v := .ref br) (C := RX5) (T := TX5) (N := 5) hx hb (ly_5 h hb0) (fun _ z => z) hown hK hP 0 rfl rfl 2 (by decide) (k_112 h hb0) (fun _ z => z) rfl dX5_put_24 ?_
      refine xr_1 (va_runV (As := []) (rest := [.int p2]) ⟨hx, hb, hml, hown, xTs⟩ (c_bplaceCount h br pl z1 z2 z3) ⟨xB (n := 0) (k_368 h hb0) (k_4 h hb0) (k_365 h hb0) (by decide) rfl rfl rfl (by decide) (by decide), (k_366 h hb0), (k_367 h hb0)⟩ (xpV hb0 hS hz (va_P.sub (hRo _ _ hS) [0] rfl) (va_recv hK (hRo _ _ hS) (ci := 1) (q0 := 0) rfl rfl)) rfl rfl hl.1 rfl (lv_room (Nat.le_of_ble_eq_true rfl)) dX5_put_27 ⟨(Nat.le_of_ble_eq_true rfl), (Nat.le_of_ble_eq_true rfl)⟩) ?_
      refine xr_0 (va_runS (As := [.int p2, .int z3]) (rest := []) ⟨hx, hb, hml, hown, xTs⟩ (c_needPlace h _ _ h0 h1) ⟨xB (n := 2) (k_232 h hb0) (k_1 h hb0) (k_230 h hb0) (by decide) rfl rfl rfl (by decide) (by decide), (k_231 h hb0)⟩ (xpS hb0 hS hz (va_P.sub (hRo _ _ hS) [] rfl)) rfl rfl hl.1 rfl (lv_room (Nat.le_of_ble_eq_true rfl)) dX5_put_30 ⟨(Nat.le_of_ble_eq_true rfl), (Nat.le_of_ble_eq_true rfl)⟩) ?_
      refine lv_iload_n hx hb dX5_put_33 rfl (lv_at hl 3 rfl) ?_
      refine lv_iload hx hb dX5_put_34 (lv_at hl 4 rfl) ?_
      refine xm_of (wc := []) (wo := [(b, .inr (5, [.ref ro, .ref gr, .ref br, .int wr, .int ca])), (pl, .inl (cA 8, 19, .inr (.inr (.inr (.inr f)))))]) (va_runS (As := [.int p3, .int p4]) (rest := []) ⟨hx, hb, hml, hown, xTs⟩ (c_newBox_b h _ _ _ hw) ⟨xB (n := 2) (k_371 h hb0) (k_1 h hb0) (k_369 h hb0) (by decide) rfl rfl rfl (by decide) (by decide), (k_370 h hb0)⟩ (xpMS (wr := []) (wc := []) hb0 hS hz (va_P.sub hP [] rfl) (va_P.sub hP [] rfl) (va_D.sub (xDD (xDl hD0) hD hz hnR) [] rfl rfl)) rfl rfl hl.1 rfl (lv_room (Nat.le_of_ble_eq_true rfl)) dX5_put_36 ⟨(Nat.le_of_ble_eq_true rfl), (Nat.le_of_ble_eq_true rfl)⟩) hP hD hS hA [] [0, 1] rfl rfl rfl (by decide) (fun r w1 H locs hΦ hP hD hS => ?_)
      obtain ⟨q, rfl, rfl⟩ := hΦ
      have hP : va_P (dC, dI) vwCl [(b, .inr (5, [.ref ro, .ref gr, .ref br, .int wr, .int ca])), (pl, .inl (cA 8, 19, .inr (.inr (.inr (.inr f))))), (q, .inr (0, [.int p4]))] H := hP
      have hD : va_D A [(b, .inr (5, [.ref ro, .ref gr, .ref br, .int wr, .int ca])), (pl, .inl (cA 8, 19, .inr (.inr (.inr (.inr f))))), (q, .inr (0, [.int p4]))] := hD
      refine lv_astore (lv' := [(5, .ref q), (0, .ref b), (1, .int p1), (2, .int p2), (3, .int p3), (4, .int p4)]) hx hb dX5_put_39 hl (by decide) rfl (fun ls hl => ?_)
      refine lv_aload_n hx hb dX5_put_41 rfl (lv_at hl 1 rfl) ?_
      refine va_get (D := (dC, dI)) (ci := 5) (v := .ref br) (C := RX5) (T := TX5) (N := 5) hx hb (ly_5 h hb0) (fun _ z => z) hown hK hP 0 rfl rfl 2 (by decide) (k_112 h hb0) (fun _ z => z) rfl dX5_put_42 ?_
      refine lv_aload hx hb dX5_put_45 (lv_at hl 0 rfl) ?_
      refine xr_1 (va_runV (As := [.ref q]) (rest := []) ⟨hx, hb, hml, hown, xTs⟩ (c_takes_f h br pl z1 z2 z3 q hd) ⟨xB (n := 1) (k_396 h hb0) (k_4 h hb0) (k_393 h hb0) (by decide) rfl rfl rfl (by decide) (by decide), (k_394 h hb0), (k_395 h hb0)⟩ (xpV hb0 hS hz (va_P.sub (hRo _ _ hS) [0] rfl) (va_recv hK (hRo _ _ hS) (ci := 1) (q0 := 0) rfl rfl)) rfl rfl hl.1 rfl (lv_room (Nat.le_of_ble_eq_true rfl)) dX5_put_47 ⟨(Nat.le_of_ble_eq_true rfl), (Nat.le_of_ble_eq_true rfl)⟩) ?_
      refine lv_if_ne (tgt := 63) hx hb dX5_put_50 (by decide) (fun c_3 => ?_) (fun c_3 => ?_)
      · refine lv_aload_n hx hb dX5_put_63 rfl (lv_at hl 1 rfl) ?_
        refine va_get (D := (dC, dI)) (ci := 5) (v := .ref br) (C := RX5) (T := TX5) (N := 5) hx hb (ly_5 h hb0) (fun _ z => z) hown hK hP 0 rfl rfl 2 (by decide) (k_112 h hb0) (fun _ z => z) rfl dX5_put_64 ?_
        refine lv_iload_n hx hb dX5_put_67 rfl (lv_at hl 3 rfl) ?_
        refine lv_aload hx hb dX5_put_68 (lv_at hl 0 rfl) ?_
        refine xm_of (wc := [(pl, .inl (cA 8, 19, .inr (.inr (.inr (.inr f))))), (q, .inr (0, [.int p4]))]) (wo := [(b, .inr (5, [.ref ro, .ref gr, .ref br, .int wr, .int ca]))]) (va_runV (As := [.int p2, .ref q]) (rest := []) ⟨hx, hb, hml, hown, xTs⟩ (c_bstore_0 h br pl z1 z2 z3 p2 f q p4 _ hi) ⟨xB (n := 2) (k_417 h hb0) (k_4 h hb0) (k_414 h hb0) (by decide) rfl rfl rfl (by decide) (by decide), (k_415 h hb0), (k_416 h hb0)⟩ (xpMV (wr := [(br, .inr (1, [.ref pl, .int z1, .int z2, .int z3]))]) (wc := [(pl, .inl (cA 8, 19, .inr (.inr (.inr (.inr f))))), (q, .inr (0, [.int p4]))]) hb0 hS hz (va_P.sub (hRo _ _ hS) [0] rfl) (va_P.sub hP [1, 2] rfl) (va_D.sub (xDD (xDl hD0) hD hz hnR) [0, 2, 3] rfl rfl) (va_recv hK (hRo _ _ hS) (ci := 1) (q0 := 0) rfl rfl)) rfl rfl hl.1 rfl (lv_room (Nat.le_of_ble_eq_true rfl)) dX5_put_70 ⟨(Nat.le_of_ble_eq_true rfl), (Nat.le_of_ble_eq_true rfl)⟩) hP hD hS hA [1, 2] [0] rfl rfl rfl (by decide) (fun r w1 H locs hΦ hP hD hS => ?_)
        obtain ⟨rfl, rfl⟩ := hΦ
        have hP : va_P (dC, dI) vwCl [(b, .inr (5, [.ref ro, .ref gr, .ref br, .int wr, .int ca])), (pl, .inl (cA 8, 19, .inr (.inr (.inr (.inr (va_up f p2.toNatClampNeg (some q))))))), (q, .inr (0, [.int p4]))] H := hP
        have hD : va_D A [(b, .inr (5, [.ref ro, .ref gr, .ref br, .int wr, .int ca])), (pl, .inl (cA 8, 19, .inr (.inr (.inr (.inr (va_up f p2.toNatClampNeg (some q))))))), (q, .inr (0, [.int p4]))] := hD
        refine lv_aload_n hx hb dX5_put_73 rfl (lv_at hl 1 rfl) ?_
        refine lv_dup hx hb dX5_put_74 rfl ?_
        refine va_get (D := (dC, dI)) (ci := 5) (v := .int ca) (C := RX5) (T := TX5) (N := 5) hx hb (ly_5 h hb0) (fun _ z => z) hown hK hP 0 rfl rfl 4 (by decide) (k_114 h hb0) (fun _ z => z) rfl dX5_put_75 ?_
        refine lv_iconst (v := 1) hx hb dX5_put_78 (by decide) ?_
        refine lv_iadd hx hb dX5_put_79 ?_
        refine va_put (D := (dC, dI)) (ci := 5) (v := .int (ca + 1)) (ty := .int) (C := RX5) (T := TX5) (N := 5) hx hb (ly_5 h hb0) (fun _ z => z) tyX5 tyX5_ok nmX5 hown hK hP hD hS 0 rfl rfl 4 (by decide) (k_114 h hb0) (fun _ z => z) rfl (by decide +kernel) rfl rfl (Nat.le_of_ble_eq_true rfl) dX5_put_80 (fun H locs hP hD hS => ?_)
        have hP : va_P (dC, dI) vwCl [(b, .inr (5, [.ref ro, .ref gr, .ref br, .int wr, .int (ca + 1)])), (pl, .inl (cA 8, 19, .inr (.inr (.inr (.inr (va_up f p2.toNatClampNeg (some q))))))), (q, .inr (0, [.int p4]))] H := hP
        have hD : va_D A [(b, .inr (5, [.ref ro, .ref gr, .ref br, .int wr, .int (ca + 1)])), (pl, .inl (cA 8, 19, .inr (.inr (.inr (.inr (va_up f p2.toNatClampNeg (some q))))))), (q, .inr (0, [.int p4]))] := hD
        refine lv_aload_n hx hb dX5_put_83 rfl (lv_at hl 1 rfl) ?_
        refine va_get (D := (dC, dI)) (ci := 5) (v := .int (ca + 1)) (C := RX5) (T := TX5) (N := 5) hx hb (ly_5 h hb0) (fun _ z => z) hown hK hP 0 rfl rfl 4 (by decide) (k_114 h hb0) (fun _ z => z) rfl dX5_put_84 ?_
        exact W.iret hx hb hr (fun t ht _ => ⟨(some (.int (ca + 1))), _, rfl, ⟨q, rfl, rfl⟩, by rw [ht]; exact hP, hD, hS.F ht⟩) (fun q z => hS.2.2 q z) dX5_put_87
      · exact absurd c_3 (by decide)
set_option maxHeartbeats 4000000 in
set_option maxRecDepth 100000 in
theorem c_put_d {l : Launch} {s0 : State} {a0 : Array Value} {dC : Nat → ClassId} {dI : Nat → Nat → Nat} {cA : Nat → ClassId} (h : xC l s0 a0 dC dI cA) (b gr br : Nat) (wr ca : Int32) (ro pl : Nat) (z1 z2 z3 p1 p2 p3 p4 : Int32) (f : Nat → Option Nat) (sz : Nat) (hm : z1 = 0 ∨ z1 = 1) (ht : ¬ z1 = 0) (hp : ¬ p1 = 0) (h0 : ¬ p2 < 0) (h1 : p2 < z3) (hi : vp_in p2 19) (hw : p3 &&& 3 = 2 ∨ p3 &&& 3 = 3) : Met l yX5_put [Cond.code yX5_put cX5_put 6 (some .int)] ({ frames := 4, cells := 1, slots := 1, locals := 160 } : Room) (xPM s0 (dC, dI) [.ref b, .int p1, .int p2, .int p3, .int p4] [(br, .inr (1, [.ref pl, .int z1, .int z2, .int z3]))] [(b, .inr (5, [.ref ro, .ref gr, .ref br, .int wr, .int ca])), (pl, .inl (cA 8, 19, .inr (.inr (.inr (.inr f)))))] sz) (xQM (dC, dI) (va_A [(b, .inr (5, [.ref ro, .ref gr, .ref br, .int wr, .int ca])), (pl, .inl (cA 8, 19, .inr (.inr (.inr (.inr f)))))] sz) (fun r w1 => ∃ q : Nat, r = some (.int (ca + 1)) ∧ w1 = [(b, .inr (5, [.ref ro, .ref gr, .ref br, .int wr, .int (ca + 1)])), (pl, .inl (cA 8, 19, .inr (.inr (.inr (.inr (va_up f p2.toNatClampNeg (some q))))))), (q, .inr (2, [.int p4]))])) 1 1 (va_A [(b, .inr (5, [.ref ro, .ref gr, .ref br, .int wr, .int ca])), (pl, .inl (cA 8, 19, .inr (.inr (.inr (.inr f)))))] sz) := by
  refine Met.ofW (cc := cX5_put) (maxL := 6) (ret := (some .int)) (by decide) rfl ?_
  intro p e s m args below meth c s₁ B hml hv
  obtain ⟨rfl, rfl, hb0, hPr, hP, hD0⟩ := hv
  have hx := B.exec
  have hb := B.bytes
  have hr := B.returns
  have hown : s.vm.findClass RX5 = some m.cls := findClass_of_methodNamed B.named
  have hlocks := B.notSynchronized
  have hK := h.K hb0
  have hS : va_S (va_A [(b, .inr (5, [.ref ro, .ref gr, .ref br, .int wr, .int ca])), (pl, .inl (cA 8, 19, .inr (.inr (.inr (.inr f)))))] s.heap.size) s.heap s.heap [] := va_S.rf
  obtain ⟨A, hAe, hD, hA, hz, hRo, hwk, hnR⟩ := xM_start hb0 hPr hP hD0
  rw [hAe] at hS ⊢
  have hl := lv_entry ([.ref b, .int p1, .int p2, .int p3, .int p4]) (n := 6) (Nat.le_of_ble_eq_true rfl)
  rw [lg_entry_eq]
  generalize (lg_sl ([.ref b, .int p1, .int p2, .int p3, .int p4]) ++ List.replicate (6 - (lg_sl ([.ref b, .int p1, .int p2, .int p3, .int p4])).length) Slot.unset).toArray = ls at hl ⊢
  have hl : lv_has ls 6 [(0, .ref b), (1, .int p1), (2, .int p2), (3, .int p3), (4, .int p4)] := hl
  refine lv_aload_n hx hb dX5_put_0 rfl (lv_at hl 0 rfl) ?_
  refine va_get (D := (dC, dI)) (ci := 5) (v := .ref br) (C := RX5) (T := TX5) (N := 5) hx hb (ly_5 h hb0) (fun _ z => z) hown hK hP 0 rfl rfl 2 (by decide) (k_112 h hb0) (fun _ z => z) rfl dX5_put_1 ?_
  refine xr_1 (va_runV (As := []) (rest := []) ⟨hx, hb, hml, hown, xTs⟩ (c_bisMade h br pl z1 z2 z3 hm) ⟨xB (n := 0) (k_364 h hb0) (k_4 h hb0) (k_361 h hb0) (by decide) rfl rfl rfl (by decide) (by decide), (k_362 h hb0), (k_363 h hb0)⟩ (xpV hb0 hS hz (va_P.sub (hRo _ _ hS) [0] rfl) (va_recv hK (hRo _ _ hS) (ci := 1) (q0 := 0) rfl rfl)) rfl rfl hl.1 rfl (lv_room (Nat.le_of_ble_eq_true rfl)) dX5_put_4 ⟨(Nat.le_of_ble_eq_true rfl), (Nat.le_of_ble_eq_true rfl)⟩) ?_
  refine lv_if_eq (tgt := 18) hx hb dX5_put_7 (by decide) (fun c_1 => ?_) (fun c_1 => ?_)
  · exact absurd c_1 ht
  · refine lv_iload_n hx hb dX5_put_10 rfl (lv_at hl 1 rfl) ?_
    refine lv_if_eq (tgt := 18) hx hb dX5_put_11 (by decide) (fun c_2 => ?_) (fun c_2 => ?_)
    · exact absurd c_2 hp
    · refine lv_iconst (v := 1) hx hb dX5_put_14 (by decide) ?_
      refine lv_goto (tgt := 19) hx hb dX5_put_15 (by decide) ?_
      refine xr_0 (va_runS (As := [.int 1]) (rest := []) ⟨hx, hb, hml, hown, xTs⟩ (c_needThere h _ (by decide)) ⟨xB (n := 1) (k_140 h hb0) (k_1 h hb0) (k_138 h hb0) (by decide) rfl rfl rfl (by decide) (by decide), (k_139 h hb0)⟩ (xpS hb0 hS hz (va_P.sub (hRo _ _ hS) [] rfl)) rfl rfl hl.1 rfl (lv_room (Nat.le_of_ble_eq_true rfl)) dX5_put_19 ⟨(Nat.le_of_ble_eq_true rfl), (Nat.le_of_ble_eq_true rfl)⟩) ?_
      refine lv_iload_n hx hb dX5_put_22 rfl (lv_at hl 2 rfl) ?_
      refine lv_aload_n hx hb dX5_put_23 rfl (lv_at hl 0 rfl) ?_
      refine va_get (D := (dC, dI)) (ci := 5) (v := .ref br) (C := RX5) (T := TX5) (N := 5) hx hb (ly_5 h hb0) (fun _ z => z) hown hK hP 0 rfl rfl 2 (by decide) (k_112 h hb0) (fun _ z => z) rfl dX5_put_24 ?_
      refine xr_1 (va_runV (As := []) (rest := [.int p2]) ⟨hx, hb, hml, hown, xTs⟩ (c_bplaceCount h br pl z1 z2 z3) ⟨xB (n := 0) (k_368 h hb0) (k_4 h hb0) (k_365 h hb0) (by decide) rfl rfl rfl (by decide) (by decide), (k_366 h hb0), (k_367 h hb0)⟩ (xpV hb0 hS hz (va_P.sub (hRo _ _ hS) [0] rfl) (va_recv hK (hRo _ _ hS) (ci := 1) (q0 := 0) rfl rfl)) rfl rfl hl.1 rfl (lv_room (Nat.le_of_ble_eq_true rfl)) dX5_put_27 ⟨(Nat.le_of_ble_eq_true rfl), (Nat.le_of_ble_eq_true rfl)⟩) ?_
      refine xr_0 (va_runS (As := [.int p2, .int z3]) (rest := []) ⟨hx, hb, hml, hown, xTs⟩ (c_needPlace h _ _ h0 h1) ⟨xB (n := 2) (k_232 h hb0) (k_1 h hb0) (k_230 h hb0) (by decide) rfl rfl rfl (by decide) (by decide), (k_231 h hb0)⟩ (xpS hb0 hS hz (va_P.sub (hRo _ _ hS) [] rfl)) rfl rfl hl.1 rfl (lv_room (Nat.le_of_ble_eq_true rfl)) dX5_put_30 ⟨(Nat.le_of_ble_eq_true rfl), (Nat.le_of_ble_eq_true rfl)⟩) ?_
      refine lv_iload_n hx hb dX5_put_33 rfl (lv_at hl 3 rfl) ?_
      refine lv_iload hx hb dX5_put_34 (lv_at hl 4 rfl) ?_
      refine xm_of (wc := []) (wo := [(b, .inr (5, [.ref ro, .ref gr, .ref br, .int wr, .int ca])), (pl, .inl (cA 8, 19, .inr (.inr (.inr (.inr f)))))]) (va_runS (As := [.int p3, .int p4]) (rest := []) ⟨hx, hb, hml, hown, xTs⟩ (c_newBox_d h _ _ _ hw) ⟨xB (n := 2) (k_371 h hb0) (k_1 h hb0) (k_369 h hb0) (by decide) rfl rfl rfl (by decide) (by decide), (k_370 h hb0)⟩ (xpMS (wr := []) (wc := []) hb0 hS hz (va_P.sub hP [] rfl) (va_P.sub hP [] rfl) (va_D.sub (xDD (xDl hD0) hD hz hnR) [] rfl rfl)) rfl rfl hl.1 rfl (lv_room (Nat.le_of_ble_eq_true rfl)) dX5_put_36 ⟨(Nat.le_of_ble_eq_true rfl), (Nat.le_of_ble_eq_true rfl)⟩) hP hD hS hA [] [0, 1] rfl rfl rfl (by decide) (fun r w1 H locs hΦ hP hD hS => ?_)
      obtain ⟨q, rfl, rfl⟩ := hΦ
      have hP : va_P (dC, dI) vwCl [(b, .inr (5, [.ref ro, .ref gr, .ref br, .int wr, .int ca])), (pl, .inl (cA 8, 19, .inr (.inr (.inr (.inr f))))), (q, .inr (2, [.int p4]))] H := hP
      have hD : va_D A [(b, .inr (5, [.ref ro, .ref gr, .ref br, .int wr, .int ca])), (pl, .inl (cA 8, 19, .inr (.inr (.inr (.inr f))))), (q, .inr (2, [.int p4]))] := hD
      refine lv_astore (lv' := [(5, .ref q), (0, .ref b), (1, .int p1), (2, .int p2), (3, .int p3), (4, .int p4)]) hx hb dX5_put_39 hl (by decide) rfl (fun ls hl => ?_)
      refine lv_aload_n hx hb dX5_put_41 rfl (lv_at hl 1 rfl) ?_
      refine va_get (D := (dC, dI)) (ci := 5) (v := .ref br) (C := RX5) (T := TX5) (N := 5) hx hb (ly_5 h hb0) (fun _ z => z) hown hK hP 0 rfl rfl 2 (by decide) (k_112 h hb0) (fun _ z => z) rfl dX5_put_42 ?_
      refine lv_aload hx hb dX5_put_45 (lv_at hl 0 rfl) ?_
      by_cases hd : z2 = 0
      · refine xr_1 (va_runV (As := [.ref q]) (rest := []) ⟨hx, hb, hml, hown, xTs⟩ (c_takes_f h br pl z1 z2 z3 q hd) ⟨xB (n := 1) (k_396 h hb0) (k_4 h hb0) (k_393 h hb0) (by decide) rfl rfl rfl (by decide) (by decide), (k_394 h hb0), (k_395 h hb0)⟩ (xpV hb0 hS hz (va_P.sub (hRo _ _ hS) [0] rfl) (va_recv hK (hRo _ _ hS) (ci := 1) (q0 := 0) rfl rfl)) rfl rfl hl.1 rfl (lv_room (Nat.le_of_ble_eq_true rfl)) dX5_put_47 ⟨(Nat.le_of_ble_eq_true rfl), (Nat.le_of_ble_eq_true rfl)⟩) ?_
        refine lv_if_ne (tgt := 63) hx hb dX5_put_50 (by decide) (fun c_3 => ?_) (fun c_3 => ?_)
        · refine lv_aload_n hx hb dX5_put_63 rfl (lv_at hl 1 rfl) ?_
          refine va_get (D := (dC, dI)) (ci := 5) (v := .ref br) (C := RX5) (T := TX5) (N := 5) hx hb (ly_5 h hb0) (fun _ z => z) hown hK hP 0 rfl rfl 2 (by decide) (k_112 h hb0) (fun _ z => z) rfl dX5_put_64 ?_
          refine lv_iload_n hx hb dX5_put_67 rfl (lv_at hl 3 rfl) ?_
          refine lv_aload hx hb dX5_put_68 (lv_at hl 0 rfl) ?_
          refine xm_of (wc := [(pl, .inl (cA 8, 19, .inr (.inr (.inr (.inr f))))), (q, .inr (2, [.int p4]))]) (wo := [(b, .inr (5, [.ref ro, .ref gr, .ref br, .int wr, .int ca]))]) (va_runV (As := [.int p2, .ref q]) (rest := []) ⟨hx, hb, hml, hown, xTs⟩ (c_bstore_2 h br pl z1 z2 z3 p2 f q p4 _ hi) ⟨xB (n := 2) (k_417 h hb0) (k_4 h hb0) (k_414 h hb0) (by decide) rfl rfl rfl (by decide) (by decide), (k_415 h hb0), (k_416 h hb0)⟩ (xpMV (wr := [(br, .inr (1, [.ref pl, .int z1, .int z2, .int z3]))]) (wc := [(pl, .inl (cA 8, 19, .inr (.inr (.inr (.inr f))))), (q, .inr (2, [.int p4]))]) hb0 hS hz (va_P.sub (hRo _ _ hS) [0] rfl) (va_P.sub hP [1, 2] rfl) (va_D.sub (xDD (xDl hD0) hD hz hnR) [0, 2, 3] rfl rfl) (va_recv hK (hRo _ _ hS) (ci := 1) (q0 := 0) rfl rfl)) rfl rfl hl.1 rfl (lv_room (Nat.le_of_ble_eq_true rfl)) dX5_put_70 ⟨(Nat.le_of_ble_eq_true rfl), (Nat.le_of_ble_eq_true rfl)⟩) hP hD hS hA [1, 2] [0] rfl rfl rfl (by decide) (fun r w1 H locs hΦ hP hD hS => ?_)
          obtain ⟨rfl, rfl⟩ := hΦ
          have hP : va_P (dC, dI) vwCl [(b, .inr (5, [.ref ro, .ref gr, .ref br, .int wr, .int ca])), (pl, .inl (cA 8, 19, .inr (.inr (.inr (.inr (va_up f p2.toNatClampNeg (some q))))))), (q, .inr (2, [.int p4]))] H := hP
          have hD : va_D A [(b, .inr (5, [.ref ro, .ref gr, .ref br, .int wr, .int ca])), (pl, .inl (cA 8, 19, .inr (.inr (.inr (.inr (va_up f p2.toNatClampNeg (some q))))))), (q, .inr (2, [.int p4]))] := hD
          refine lv_aload_n hx hb dX5_put_73 rfl (lv_at hl 1 rfl) ?_
          refine lv_dup hx hb dX5_put_74 rfl ?_
          refine va_get (D := (dC, dI)) (ci := 5) (v := .int ca) (C := RX5) (T := TX5) (N := 5) hx hb (ly_5 h hb0) (fun _ z => z) hown hK hP 0 rfl rfl 4 (by decide) (k_114 h hb0) (fun _ z => z) rfl dX5_put_75 ?_
          refine lv_iconst (v := 1) hx hb dX5_put_78 (by decide) ?_
          refine lv_iadd hx hb dX5_put_79 ?_
          refine va_put (D := (dC, dI)) (ci := 5) (v := .int (ca + 1)) (ty := .int) (C := RX5) (T := TX5) (N := 5) hx hb (ly_5 h hb0) (fun _ z => z) tyX5 tyX5_ok nmX5 hown hK hP hD hS 0 rfl rfl 4 (by decide) (k_114 h hb0) (fun _ z => z) rfl (by decide +kernel) rfl rfl (Nat.le_of_ble_eq_true rfl) dX5_put_80 (fun H locs hP hD hS => ?_)
          have hP : va_P (dC, dI) vwCl [(b, .inr (5, [.ref ro, .ref gr, .ref br, .int wr, .int (ca + 1)])), (pl, .inl (cA 8, 19, .inr (.inr (.inr (.inr (va_up f p2.toNatClampNeg (some q))))))), (q, .inr (2, [.int p4]))] H := hP
          have hD : va_D A [(b, .inr (5, [.ref ro, .ref gr, .ref br, .int wr, .int (ca + 1)])), (pl, .inl (cA 8, 19, .inr (.inr (.inr (.inr (va_up f p2.toNatClampNeg (some q))))))), (q, .inr (2, [.int p4]))] := hD
          refine lv_aload_n hx hb dX5_put_83 rfl (lv_at hl 1 rfl) ?_
          refine va_get (D := (dC, dI)) (ci := 5) (v := .int (ca + 1)) (C := RX5) (T := TX5) (N := 5) hx hb (ly_5 h hb0) (fun _ z => z) hown hK hP 0 rfl rfl 4 (by decide) (k_114 h hb0) (fun _ z => z) rfl dX5_put_84 ?_
          exact W.iret hx hb hr (fun t ht _ => ⟨(some (.int (ca + 1))), _, rfl, ⟨q, rfl, rfl⟩, by rw [ht]; exact hP, hD, hS.F ht⟩) (fun q z => hS.2.2 q z) dX5_put_87
        · exact absurd c_3 (by decide)
      · refine xr_1 (va_runV (As := [.ref q]) (rest := []) ⟨hx, hb, hml, hown, xTs⟩ (c_takes_d h br pl z1 z2 z3 q p4 hd) ⟨xB (n := 1) (k_396 h hb0) (k_4 h hb0) (k_393 h hb0) (by decide) rfl rfl rfl (by decide) (by decide), (k_394 h hb0), (k_395 h hb0)⟩ (xpV hb0 hS hz (va_P.app (va_P.sub (hRo _ _ hS) [0] rfl) (va_P.sub hP [2] rfl)) (va_recv hK (hRo _ _ hS) (ci := 1) (q0 := 0) rfl rfl)) rfl rfl hl.1 rfl (lv_room (Nat.le_of_ble_eq_true rfl)) dX5_put_47 ⟨(Nat.le_of_ble_eq_true rfl), (Nat.le_of_ble_eq_true rfl)⟩) ?_
        refine lv_if_ne (tgt := 63) hx hb dX5_put_50 (by decide) (fun c_4 => ?_) (fun c_4 => ?_)
        · refine lv_aload_n hx hb dX5_put_63 rfl (lv_at hl 1 rfl) ?_
          refine va_get (D := (dC, dI)) (ci := 5) (v := .ref br) (C := RX5) (T := TX5) (N := 5) hx hb (ly_5 h hb0) (fun _ z => z) hown hK hP 0 rfl rfl 2 (by decide) (k_112 h hb0) (fun _ z => z) rfl dX5_put_64 ?_
          refine lv_iload_n hx hb dX5_put_67 rfl (lv_at hl 3 rfl) ?_
          refine lv_aload hx hb dX5_put_68 (lv_at hl 0 rfl) ?_
          refine xm_of (wc := [(pl, .inl (cA 8, 19, .inr (.inr (.inr (.inr f))))), (q, .inr (2, [.int p4]))]) (wo := [(b, .inr (5, [.ref ro, .ref gr, .ref br, .int wr, .int ca]))]) (va_runV (As := [.int p2, .ref q]) (rest := []) ⟨hx, hb, hml, hown, xTs⟩ (c_bstore_2 h br pl z1 z2 z3 p2 f q p4 _ hi) ⟨xB (n := 2) (k_417 h hb0) (k_4 h hb0) (k_414 h hb0) (by decide) rfl rfl rfl (by decide) (by decide), (k_415 h hb0), (k_416 h hb0)⟩ (xpMV (wr := [(br, .inr (1, [.ref pl, .int z1, .int z2, .int z3]))]) (wc := [(pl, .inl (cA 8, 19, .inr (.inr (.inr (.inr f))))), (q, .inr (2, [.int p4]))]) hb0 hS hz (va_P.sub (hRo _ _ hS) [0] rfl) (va_P.sub hP [1, 2] rfl) (va_D.sub (xDD (xDl hD0) hD hz hnR) [0, 2, 3] rfl rfl) (va_recv hK (hRo _ _ hS) (ci := 1) (q0 := 0) rfl rfl)) rfl rfl hl.1 rfl (lv_room (Nat.le_of_ble_eq_true rfl)) dX5_put_70 ⟨(Nat.le_of_ble_eq_true rfl), (Nat.le_of_ble_eq_true rfl)⟩) hP hD hS hA [1, 2] [0] rfl rfl rfl (by decide) (fun r w1 H locs hΦ hP hD hS => ?_)
          obtain ⟨rfl, rfl⟩ := hΦ
          have hP : va_P (dC, dI) vwCl [(b, .inr (5, [.ref ro, .ref gr, .ref br, .int wr, .int ca])), (pl, .inl (cA 8, 19, .inr (.inr (.inr (.inr (va_up f p2.toNatClampNeg (some q))))))), (q, .inr (2, [.int p4]))] H := hP
          have hD : va_D A [(b, .inr (5, [.ref ro, .ref gr, .ref br, .int wr, .int ca])), (pl, .inl (cA 8, 19, .inr (.inr (.inr (.inr (va_up f p2.toNatClampNeg (some q))))))), (q, .inr (2, [.int p4]))] := hD
          refine lv_aload_n hx hb dX5_put_73 rfl (lv_at hl 1 rfl) ?_
          refine lv_dup hx hb dX5_put_74 rfl ?_
          refine va_get (D := (dC, dI)) (ci := 5) (v := .int ca) (C := RX5) (T := TX5) (N := 5) hx hb (ly_5 h hb0) (fun _ z => z) hown hK hP 0 rfl rfl 4 (by decide) (k_114 h hb0) (fun _ z => z) rfl dX5_put_75 ?_
          refine lv_iconst (v := 1) hx hb dX5_put_78 (by decide) ?_
          refine lv_iadd hx hb dX5_put_79 ?_
          refine va_put (D := (dC, dI)) (ci := 5) (v := .int (ca + 1)) (ty := .int) (C := RX5) (T := TX5) (N := 5) hx hb (ly_5 h hb0) (fun _ z => z) tyX5 tyX5_ok nmX5 hown hK hP hD hS 0 rfl rfl 4 (by decide) (k_114 h hb0) (fun _ z => z) rfl (by decide +kernel) rfl rfl (Nat.le_of_ble_eq_true rfl) dX5_put_80 (fun H locs hP hD hS => ?_)
          have hP : va_P (dC, dI) vwCl [(b, .inr (5, [.ref ro, .ref gr, .ref br, .int wr, .int (ca + 1)])), (pl, .inl (cA 8, 19, .inr (.inr (.inr (.inr (va_up f p2.toNatClampNeg (some q))))))), (q, .inr (2, [.int p4]))] H := hP
          have hD : va_D A [(b, .inr (5, [.ref ro, .ref gr, .ref br, .int wr, .int (ca + 1)])), (pl, .inl (cA 8, 19, .inr (.inr (.inr (.inr (va_up f p2.toNatClampNeg (some q))))))), (q, .inr (2, [.int p4]))] := hD
          refine lv_aload_n hx hb dX5_put_83 rfl (lv_at hl 1 rfl) ?_
          refine va_get (D := (dC, dI)) (ci := 5) (v := .int (ca + 1)) (C := RX5) (T := TX5) (N := 5) hx hb (ly_5 h hb0) (fun _ z => z) hown hK hP 0 rfl rfl 4 (by decide) (k_114 h hb0) (fun _ z => z) rfl dX5_put_84 ?_
          exact W.iret hx hb hr (fun t ht _ => ⟨(some (.int (ca + 1))), _, rfl, ⟨q, rfl, rfl⟩, by rw [ht]; exact hP, hD, hS.F ht⟩) (fun q z => hS.2.2 q z) dX5_put_87
        · exact absurd c_4 (by decide)
set_option maxHeartbeats 4000000 in
set_option maxRecDepth 100000 in
theorem t_put_S {l : Launch} {s0 : State} {a0 : Array Value} {dC : Nat → ClassId} {dI : Nat → Nat → Nat} {cA : Nat → ClassId} (h : xC l s0 a0 dC dI cA) (b gr br : Nat) (wr ca : Int32) (ro pl : Nat) (z1 z2 z3 p1 p2 p3 p4 : Int32) (f : Nat → Option Nat) (hm : z1 = 0 ∨ z1 = 1) (ht : ¬ z1 = 0) (hp : ¬ p1 = 0) (h0 : ¬ p2 < 0) (h1 : p2 < z3) (hi : vp_in p2 19) (hw : p3 &&& 3 = 1) (hd : ¬ z2 = 0) : xt_Met l yX5_put [Cond.code yX5_put cX5_put 6 (some .int)] ({ frames := 8, cells := 2, slots := 9, locals := 180 } : Room) (xP s0 (dC, dI) [.ref b, .int p1, .int p2, .int p3, .int p4] [(b, .inr (5, [.ref ro, .ref gr, .ref br, .int wr, .int ca])), (br, .inr (1, [.ref pl, .int z1, .int z2, .int z3]))]) "java/lang/ArrayStoreException" 2 9 := by
  refine xt_ofW (cc := cX5_put) (maxL := 6) (ret := (some .int)) (by decide) rfl ?_
  intro p e s m args below meth c s₁ B hml hout hv
  obtain ⟨rfl, hb0, hP⟩ := hv
  have hx := B.exec
  have hb := B.bytes
  have hr := B.returns
  have hown : s.vm.findClass RX5 = some m.cls := findClass_of_methodNamed B.named
  have hlocks := B.notSynchronized
  have hK := h.K hb0
  have hS : va_S (fun _ : Nat => False) s.heap s.heap [] := va_S.rf
  have hz : ∀ q : Nat, (fun _ : Nat => False) q → s0.heap.size ≤ q := fun _ z => z.elim
  have hl := lv_entry ([.ref b, .int p1, .int p2, .int p3, .int p4]) (n := 6) (Nat.le_of_ble_eq_true rfl)
  rw [lg_entry_eq]
  generalize (lg_sl ([.ref b, .int p1, .int p2, .int p3, .int p4]) ++ List.replicate (6 - (lg_sl ([.ref b, .int p1, .int p2, .int p3, .int p4])).length) Slot.unset).toArray = ls at hl ⊢
  have hl : lv_has ls 6 [(0, .ref b), (1, .int p1), (2, .int p2), (3, .int p3), (4, .int p4)] := hl
  refine lv_aload_n hx hb dX5_put_0 rfl (lv_at hl 0 rfl) ?_
  refine va_get (D := (dC, dI)) (ci := 5) (v := .ref br) (C := RX5) (T := TX5) (N := 5) hx hb (ly_5 h hb0) (fun _ z => z) hown hK hP 0 rfl rfl 2 (by decide) (k_112 h hb0) (fun _ z => z) rfl dX5_put_1 ?_
  refine xr_1 (va_runV (As := []) (rest := []) ⟨hx, hb, hml, hown, xTs⟩ (c_bisMade h br pl z1 z2 z3 hm) ⟨xB (n := 0) (k_364 h hb0) (k_4 h hb0) (k_361 h hb0) (by decide) rfl rfl rfl (by decide) (by decide), (k_362 h hb0), (k_363 h hb0)⟩ (xpV hb0 hS hz (va_P.sub hP [1] rfl) (va_recv hK hP (ci := 1) (q0 := 1) rfl rfl)) rfl rfl hl.1 rfl (lv_room (Nat.le_of_ble_eq_true rfl)) dX5_put_4 ⟨(Nat.le_of_ble_eq_true rfl), (Nat.le_of_ble_eq_true rfl)⟩) ?_
  refine lv_if_eq (tgt := 18) hx hb dX5_put_7 (by decide) (fun c_1 => ?_) (fun c_1 => ?_)
  · exact absurd c_1 ht
  · refine lv_iload_n hx hb dX5_put_10 rfl (lv_at hl 1 rfl) ?_
    refine lv_if_eq (tgt := 18) hx hb dX5_put_11 (by decide) (fun c_2 => ?_) (fun c_2 => ?_)
    · exact absurd c_2 hp
    · refine lv_iconst (v := 1) hx hb dX5_put_14 (by decide) ?_
      refine lv_goto (tgt := 19) hx hb dX5_put_15 (by decide) ?_
      refine xr_0 (va_runS (As := [.int 1]) (rest := []) ⟨hx, hb, hml, hown, xTs⟩ (c_needThere h _ (by decide)) ⟨xB (n := 1) (k_140 h hb0) (k_1 h hb0) (k_138 h hb0) (by decide) rfl rfl rfl (by decide) (by decide), (k_139 h hb0)⟩ (xpS hb0 hS hz (va_P.sub hP [] rfl)) rfl rfl hl.1 rfl (lv_room (Nat.le_of_ble_eq_true rfl)) dX5_put_19 ⟨(Nat.le_of_ble_eq_true rfl), (Nat.le_of_ble_eq_true rfl)⟩) ?_
      refine lv_iload_n hx hb dX5_put_22 rfl (lv_at hl 2 rfl) ?_
      refine lv_aload_n hx hb dX5_put_23 rfl (lv_at hl 0 rfl) ?_
      refine va_get (D := (dC, dI)) (ci := 5) (v := .ref br) (C := RX5) (T := TX5) (N := 5) hx hb (ly_5 h hb0) (fun _ z => z) hown hK hP 0 rfl rfl 2 (by decide) (k_112 h hb0) (fun _ z => z) rfl dX5_put_24 ?_
      refine xr_1 (va_runV (As := []) (rest := [.int p2]) ⟨hx, hb, hml, hown, xTs⟩ (c_bplaceCount h br pl z1 z2 z3) ⟨xB (n := 0) (k_368 h hb0) (k_4 h hb0) (k_365 h hb0) (by decide) rfl rfl rfl (by decide) (by decide), (k_366 h hb0), (k_367 h hb0)⟩ (xpV hb0 hS hz (va_P.sub hP [1] rfl) (va_recv hK hP (ci := 1) (q0 := 1) rfl rfl)) rfl rfl hl.1 rfl (lv_room (Nat.le_of_ble_eq_true rfl)) dX5_put_27 ⟨(Nat.le_of_ble_eq_true rfl), (Nat.le_of_ble_eq_true rfl)⟩) ?_
      refine xr_0 (va_runS (As := [.int p2, .int z3]) (rest := []) ⟨hx, hb, hml, hown, xTs⟩ (c_needPlace h _ _ h0 h1) ⟨xB (n := 2) (k_232 h hb0) (k_1 h hb0) (k_230 h hb0) (by decide) rfl rfl rfl (by decide) (by decide), (k_231 h hb0)⟩ (xpS hb0 hS hz (va_P.sub hP [] rfl)) rfl rfl hl.1 rfl (lv_room (Nat.le_of_ble_eq_true rfl)) dX5_put_30 ⟨(Nat.le_of_ble_eq_true rfl), (Nat.le_of_ble_eq_true rfl)⟩) ?_
      refine lv_iload_n hx hb dX5_put_33 rfl (lv_at hl 3 rfl) ?_
      refine lv_iload hx hb dX5_put_34 (lv_at hl 4 rfl) ?_
      have hS : va_S (va_A [] s.heap.size) s.heap s.heap [] := va_S.rf
      have hz : ∀ q : Nat, va_A [] s.heap.size q → s0.heap.size ≤ q := fun q z => Nat.le_trans hb0.2.1 (xnew_A z)
      have hPn : va_P (dC, dI) vwCl [] s.heap := va_P.sub hP [] rfl
      refine xm_of (ws := []) (wc := []) (wo := []) (va_runS (As := [.int p3, .int p4]) (rest := []) ⟨hx, hb, hml, hown, xTs⟩ (c_newBox_b h _ _ _ hw) ⟨xB (n := 2) (k_371 h hb0) (k_1 h hb0) (k_369 h hb0) (by decide) rfl rfl rfl (by decide) (by decide), (k_370 h hb0)⟩ (xpMS (wr := []) (wc := []) hb0 hS hz hPn hPn xD_nil) rfl rfl hl.1 rfl (lv_room (Nat.le_of_ble_eq_true rfl)) dX5_put_36 ⟨(Nat.le_of_ble_eq_true rfl), (Nat.le_of_ble_eq_true rfl)⟩) hPn (A0 := va_A [] s.heap.size) xD_nil hS (fun q h => Or.inr h) [] [] rfl rfl rfl (by decide) (fun r w1 H locs hΦ hPq hDq hS => ?_)
      obtain ⟨q, rfl, rfl⟩ := hΦ
      have hP : va_P (dC, dI) vwCl [(b, .inr (5, [.ref ro, .ref gr, .ref br, .int wr, .int ca])), (br, .inr (1, [.ref pl, .int z1, .int z2, .int z3])), (q, .inr (0, [.int p4]))] H := va_P.app (xkeep hP hS (fun q z => xnew_A z)) hPq
      refine va_forget (fun q hq => xnew_A (hS.2.2 q hq)) ?_
      have hS : va_S (va_A [] s.heap.size) s.heap H [] := ⟨hS.1, hS.2.1, fun _ z => nomatch z⟩
      show W _ _ _ _ _ _ _ _ _ _ _ _ _ _ _ (F0 m 39 ls [.ref q])
      refine lv_astore (lv' := [(5, .ref q), (0, .ref b), (1, .int p1), (2, .int p2), (3, .int p3), (4, .int p4)]) hx hb dX5_put_39 hl (by decide) rfl (fun ls hl => ?_)
      refine lv_aload_n hx hb dX5_put_41 rfl (lv_at hl 1 rfl) ?_
      refine va_get (D := (dC, dI)) (ci := 5) (v := .ref br) (C := RX5) (T := TX5) (N := 5) hx hb (ly_5 h hb0) (fun _ z => z) hown hK hP 0 rfl rfl 2 (by decide) (k_112 h hb0) (fun _ z => z) rfl dX5_put_42 ?_
      refine lv_aload hx hb dX5_put_45 (lv_at hl 0 rfl) ?_
      refine xr_1 (va_runV (As := [.ref q]) (rest := []) ⟨hx, hb, hml, hown, xTs⟩ (c_takes_b h br pl z1 z2 z3 q p4 hd) ⟨xB (n := 1) (k_396 h hb0) (k_4 h hb0) (k_393 h hb0) (by decide) rfl rfl rfl (by decide) (by decide), (k_394 h hb0), (k_395 h hb0)⟩ (xpV hb0 hS hz (va_P.sub hP [1, 2] rfl) (va_recv hK hP (ci := 1) (q0 := 1) rfl rfl)) rfl rfl hl.1 rfl (lv_room (Nat.le_of_ble_eq_true rfl)) dX5_put_47 ⟨(Nat.le_of_ble_eq_true rfl), (Nat.le_of_ble_eq_true rfl)⟩) ?_
      refine lv_if_ne (tgt := 63) hx hb dX5_put_50 (by decide) (fun c_3 => ?_) (fun c_3 => ?_)
      · exact absurd rfl c_3
      · exact xt_throwS (own := RX5) (names := ["java/lang/RuntimeException", "java/lang/Exception"]) hx hb h.1 hown (by decide) (by decide) (k_398 h hb0) (k_15 h hb0) (k_407 h hb0) (xo_101 h hb0) (hl.1.trans hml.symm) hout hlocks dX5_put_53 dX5_put_56 dX5_put_57 dX5_put_59 dX5_put_62 (by decide) (by decide) (by decide) (by decide) (by decide) (by decide)
end
section
/-! 'new int[8][8]': the outer array at q, its rows behind it. -/
def xq_o (cG : ClassId) (h i : Nat) : Cell := arrV cG 8 (fun j => va_rf (if j < i then some (h + 1 + j) else none))
def xq_r (cI : ClassId) : Cell := arrV cI 8 (fun _ => .int 0)
def xq_f (T : State) (cG cI : ClassId) : Nat → State
  | 0 => T.pushCell (xq_o cG T.heap.size 0)
  | i + 1 => ((xq_f T cG cI i).pushCell (xq_r cI)).setCell T.heap.size (xq_o cG T.heap.size (i + 1))
theorem xq_next (cG : ClassId) (h i : Nat) : (xq_o cG h i).setSlot i (.ref (h + 1 + i)) = xq_o cG h (i + 1) := by
  unfold xq_o
  rw [arrV_store]
  refine congrArg (arrV cG 8) (funext fun j => ?_)
  by_cases e : j = i
  · rw [e]; simp [updV, va_rf]
  · by_cases g : j < i
    · simp [updV, e, g, show j < i + 1 by omega]
    · simp [updV, e, g, show ¬ j < i + 1 by omega]
theorem xq_facts (T : State) (cG cI : ClassId) : ∀ i, (xq_f T cG cI i).heap.size = T.heap.size + 1 + i ∧ (xq_f T cG cI i).heap[T.heap.size]? = some (xq_o cG T.heap.size i) ∧ (xq_f T cG cI i).vm = T.vm ∧ (xq_f T cG cI i).slotsUsed = T.slotsUsed + 8 + i * 8 ∧
    (∀ a, a < T.heap.size → (xq_f T cG cI i).heap[a]? = T.heap[a]?) ∧ ∀ j, j < i → (xq_f T cG cI i).heap[T.heap.size + 1 + j]? = some (xq_r cI)
  | 0 => ⟨by simp [xq_f], by simp [xq_f], rfl, by simp [xq_f, xq_o, arrV_size], fun a ha => State.heap_pushCell_of_lt _ _ ha, fun j hj => absurd hj (Nat.not_lt_zero _)⟩
  | i + 1 => by
    obtain ⟨h1, h2, h3, h4, h5, h6⟩ := xq_facts T cG cI i
    have hlt : ∀ a, a < T.heap.size + 1 + i → a < (xq_f T cG cI i).heap.size := fun a h => by rw [h1]; exact h
    have hp : ((xq_f T cG cI i).pushCell (xq_r cI)).heap[T.heap.size]? = some (xq_o cG T.heap.size i) := by rw [State.heap_pushCell_of_lt (h := hlt _ (by omega))]; exact h2
    refine ⟨?_, State.heap_setCell_self hp, by simp [xq_f, h3], ?_, fun a ha => ?_, fun j hj => ?_⟩
    · simp [xq_f, State.setCell, h1]; omega
    · simp [xq_f, h4, xq_r, arrV_size]; omega
    · show (((xq_f T cG cI i).pushCell (xq_r cI)).setCell T.heap.size _).heap[a]? = _
      rw [State.heap_setCell_other (Nat.ne_of_gt ha), State.heap_pushCell_of_lt (h := hlt _ (by omega))]
      exact h5 a ha
    · show (((xq_f T cG cI i).pushCell (xq_r cI)).setCell T.heap.size _).heap[T.heap.size + 1 + j]? = _
      rw [State.heap_setCell_other (show T.heap.size ≠ T.heap.size + 1 + j by omega)]
      by_cases hji : j < i
      · rw [State.heap_pushCell_of_lt (h := hlt _ (by omega))]
        exact h6 j hji
      · have he : j = i := by omega
        rw [he, ← h1]
        exact State.heap_pushCell_size _ _
theorem xq_top (T : State) (f : JFrame) (cG cI : ClassId) : ∀ i, xq_f (T.setTop f) cG cI i = (xq_f T cG cI i).setTop f
  | 0 => rfl
  | i + 1 => by simp only [xq_f, xq_top T f cG cI i, State.heap_setTop, State.pushCell_setTop, State.setCell_setTop]
section XQW
variable {E : CtlPost} {e : Env} {d : Bool} {acts : List Action} {s : State}
theorem xq_in {cI cc : ClassId} {kI : Class} (hk : s.vm.classes[cI]? = some kI) (hkind : kI.kind = .array cc .int) (hl : 8 ≤ e.platform.arrayLengthLimit) (hh : 32 ≤ e.platform.maxHeapBytes) (h1 : s.heap.size < e.platform.maxCells) (h2 : s.slotsUsed + 8 ≤ e.platform.maxSlots)
    {Q : Addr → Pre} (hq : ∀ acts', Q s.heap.size d acts' (s.pushCell (xq_r cI))) : wp (Op.multianewarray.make cI [8]) Q E e d acts s := by
  rw [Op.multianewarray.make]
  simp only [wp_bind', W.ite, show ¬ (8 : Int32) < 0 by decide, if_false, wp_pure', W.theClass, hk, hkind, Option.some.injEq, exists_eq_left']
  refine W.newArray_of hk hkind (by show ¬ 8 > _; omega) (by show ¬ 8 * 4 > _; omega) h1 h2 rfl (fun acts' => ?_)
  have := hq acts'
  rw [xq_r, ← arrV_new] at this
  exact this
set_option maxHeartbeats 1000000 in
theorem xq_mk {cG cI cc : ClassId} {kG kI : Class} (hkG : s.vm.classes[cG]? = some kG) (hkindG : kG.kind = .array cI (.array .int)) (hkI : s.vm.classes[cI]? = some kI) (hkindI : kI.kind = .array cc .int) (hl : 8 ≤ e.platform.arrayLengthLimit) (hh : 32 ≤ e.platform.maxHeapBytes)
    (h1 : s.heap.size + 9 ≤ e.platform.maxCells) (h2 : s.slotsUsed + 72 ≤ e.platform.maxSlots) {Q : Addr → Pre} (hq : ∀ d' acts', Q s.heap.size d' acts' (xq_f s cG cI 8)) : wp (Op.multianewarray.make cG [8, 8]) Q E e d acts s := by
  rw [Op.multianewarray.make]
  simp only [wp_bind', W.ite, show ¬ (8 : Int32) < 0 by decide, if_false, wp_pure', W.theClass, hkG, hkindG, Option.some.injEq, exists_eq_left']
  refine W.newArray_of hkG hkindG (by show ¬ 8 > _; omega) (by show ¬ 8 * 4 > _; omega) (by omega) (by show s.slotsUsed + 8 ≤ _; omega) rfl (fun acts' => ?_)
  have h0 : s.pushCell { cls := cG, slots := Array.replicate (8 : Int32).toNatClampNeg Value.null } = xq_f s cG cI 0 := by
    show s.pushCell { cls := cG, slots := Array.replicate 8 Value.null, vm := .none } = _
    rw [arrV_new]
    rfl
  rw [h0]
  simp only [show ([(8 : Int32)].find? (· < 0)) = none from by decide]
  rw [ite_self, wp_bind', Std.Legacy.Range.forIn_eq_forIn_range']
  have hsz : ([:(8 : Int32).toNatClampNeg] : Std.Legacy.Range).size = 8 := by decide
  rw [hsz]
  show wp (forIn (List.range' 0 8 1) PUnit.unit _) _ E e d acts' _
  refine wp_forIn_inv (fun rest s' => ∃ i, i ≤ 8 ∧ rest = List.range' i (8 - i) ∧ s' = xq_f s cG cI i) _ _ ⟨0, Nat.zero_le _, rfl, rfl⟩ ?_ ?_
  · rintro x rest s' d' acts2 Q' ⟨i, hi, hl2, rfl⟩ hnext
    have hlt : i < 8 := by
      rcases Nat.lt_or_ge i 8 with h | h
      · exact h
      · rw [show 8 - i = 0 by omega] at hl2; simp at hl2
    rw [show 8 - i = (8 - (i + 1)) + 1 by omega, List.range'_succ] at hl2
    obtain ⟨rfl, hrest⟩ := List.cons.inj hl2
    obtain ⟨f1, f2, f3, f4, -, -⟩ := xq_facts s cG cI x
    simp only [wp_bind']
    refine xq_in (by rw [f3]; exact hkI) hkindI hl hh (by rw [f1]; omega) (by rw [f4]; omega) (fun acts3 => ?_)
    have hlt0 : s.heap.size < (xq_f s cG cI x).heap.size := by rw [f1]; omega
    simp only [wp_bind', W.writeLoc, wp_pure']
    refine ⟨xq_o cG s.heap.size x, by rw [State.heap_pushCell_of_lt (h := hlt0)]; exact f2, by simp [xq_o, arrV], by rw [xq_o, arrV_size]; exact hlt, ?_, hnext _ _ _ ⟨x + 1, hlt, hrest, ?_⟩⟩
    · simp [xq_o, arrV, State.fitsSlot, State.slotType?, f3, hkG, hkindG, fits]
    · rw [f1, xq_next]; rfl
  · rintro s' d' acts2 ⟨i, hi, hl2, rfl⟩
    have he : i = 8 := by
      rcases Nat.lt_or_ge i 8 with h | h
      · rw [show 8 - i = (8 - (i + 1)) + 1 by omega, List.range'_succ] at hl2; cases hl2
      · omega
    rw [he]
    simp only [wp_pure']
    exact hq _ _
end XQW
/-- the rows of a grid: row i at ga i holds M i -/
def rws (cI : ClassId) (ga : Nat → Nat) (M : Nat → Nat → Int32) : va_W := (List.range 8).map (fun i => (ga i, .inl (cI, 8, .inl (M i))))
def mset (M : Nat → Nat → Int32) (i j : Nat) (v : Int32) : Nat → Nat → Int32 := fun a b => if a = i ∧ b = j then v else M a b
theorem mset_row (M : Nat → Nat → Int32) (i j : Nat) (v : Int32) : upd (M i) j v = mset M i j v i := by
  funext b
  by_cases h : b = j <;> simp [upd, mset, h]
theorem rws_get {cI : ClassId} {ga : Nat → Nat} {M : Nat → Nat → Int32} {X : va_W} {i n : Nat} (hn : X.length = n) (h : i < 8) : (X ++ rws cI ga M)[n + i]? = some (ga i, .inl (cI, 8, .inl (M i))) := by
  rw [List.getElem?_append_right (by omega), show n + i - X.length = i by omega]
  simp [rws, h]
theorem rws_set {cI : ClassId} {ga : Nat → Nat} {M : Nat → Nat → Int32} {X : va_W} {i j n : Nat} {v : Int32} (hn : X.length = n) (h : i < 8) : (X ++ rws cI ga M).set (n + i) (ga i, .inl (cI, 8, .inl (upd (M i) j v))) = X ++ rws cI ga (mset M i j v) := by
  rw [List.set_append_right _ _ (by omega), show n + i - X.length = i by omega]
  congr 1
  apply List.ext_getElem
  · simp [rws]
  · intro k h1 h2
    rw [List.getElem_set]
    simp only [rws, List.getElem_map, List.getElem_range]
    by_cases e : i = k
    · rw [if_pos e, ← e, mset_row]
    · rw [if_neg e]
      have : mset M i j v k = M k := by funext b; simp [mset, show ¬ k = i from fun q => e q.symm]
      rw [this]
theorem arrV_congr {cI : ClassId} {N : Nat} {f g : Nat → Value} (h : ∀ j, j < N → f j = g j) : arrV cI N f = arrV cI N g := by
  unfold arrV
  congr 2
  funext j
  exact h j.val j.isLt
theorem xRA_eq {U : State} {c1 c2 : ClassId} {ty : FieldType} (h1 : va_RA U c1 ty) (h2 : va_RA U c2 ty) : c1 = c2 := by
  cases ty with
  | object C =>
    obtain ⟨-, -, -, -, -, h1⟩ := h1
    obtain ⟨-, -, -, -, -, h2⟩ := h2
    exact Option.some.inj (h1.symm.trans h2)
  | _ => exact Option.some.inj (h1.symm.trans h2)
theorem xq_over {args : Array Value} {s : State} {t : FieldType} (h : (Cond.arrayOver (.array t)).before args s = true) : ∃ comp c k, s.vm.findClass (FieldType.array t).toString = some comp ∧ s.vm.classes[c]? = some k ∧ k.kind = .array comp (.array t) ∧ s.vm.findClass ("[" ++ (FieldType.array t).toString) = some c := by
  simp only [Cond.before, Cond.holds, Cond.value, beq_iff_eq] at h
  cases hc : s.vm.findClass (FieldType.array t).toString with
  | none => simp [hc] at h
  | some comp =>
    simp only [hc, Option.bind_some, Option.bind_eq_some_iff, Option.map_eq_some_iff] at h
    obtain ⟨c, hi, k, hk, hb⟩ := h
    obtain ⟨hlt, hp, -⟩ := Array.findIdx?_eq_some_iff_getElem.mp hi
    have hkk : s.vm.classes[c] = k := (Array.getElem?_eq_some_iff.mp hk).2
    rw [hkk] at hp
    cases hkind : k.kind with
    | array component ty =>
      rw [hkind] at hb hp
      simp at hb hp
      exact ⟨comp, c, k, rfl, hk, by rw [hkind, hp, hb.1], hb.2⟩
    | _ => rw [hkind] at hb; simp at hb
section XQR
variable {p : Program} {l : Launch} {e : Env} {R : Room} {s : State} {m : MethodId} {args : Array Value} {below : List Frame} {meth : Method} {c : Code} {H : Heap} {locs : List Loc} {cells slots : Nat} {Q : State → Prop}
theorem xq_stand {T : State} (X : Stand p l e R s m args below meth c T locs cells slots) (cG cI : ClassId) : ∀ i, Stand p l e R s m args below meth c (xq_f T cG cI i) locs (cells + 1 + i) (slots + 8 + i * 8)
  | 0 => by
    have h := X.pushed (xq_o cG T.heap.size 0)
    rw [show (xq_o cG T.heap.size 0).slots.size = 8 from arrV_size _ _ _] at h
    simpa [xq_f] using h
  | i + 1 => by
    have Xi := xq_stand X cG cI i
    obtain ⟨f1, f2, -, -, -, -⟩ := xq_facts T cG cI i
    have hlt0 : T.heap.size < (xq_f T cG cI i).heap.size := by rw [f1]; omega
    have hcell : ((xq_f T cG cI i).pushCell (xq_r cI)).heap[T.heap.size]? = some (xq_o cG T.heap.size i) := by rw [State.heap_pushCell_of_lt (h := hlt0)]; exact f2
    have h := (Xi.pushed (xq_r cI)).stored hcell i (.ref (T.heap.size + 1 + i))
    rw [show (xq_r cI).slots.size = 8 from arrV_size _ _ _, xq_next] at h
    have h2 := h.forget (fun y hy => by
      rw [List.mem_singleton] at hy
      rw [hy]
      exact X.same.2.1)
    rw [show slots + 8 + (i + 1) * 8 = slots + 8 + i * 8 + 8 by omega]
    exact h2
variable {cc : ByteArray} {pc : Nat} {ls : Array Slot} {rest : List Value} {D : va_G} {A : Nat → Prop} {tys : List (ClassId × FieldType)} {ws : va_W} {H0 : Heap}
set_option maxHeartbeats 1000000 in
theorem xmulti (hexec : p.tables.exec = Jvm.exec) (hb : c.code = cc) {own : String} {index t0 t1 : Nat} {cI cG : ClassId} (hown : s.vm.findClass own = some m.cls) (hclink : (Cond.classLink own index "[[I").before args s = true) (hover : ∃ comp c k, s.vm.findClass (FieldType.array .int).toString = some comp ∧ s.vm.classes[c]? = some k ∧ k.kind = .array comp (.array .int) ∧ s.vm.findClass ("[" ++ (FieldType.array .int).toString) = some c) (harr : (Cond.arrayClass .int).before args s = true)
    (hK : va_K D vwCl tys s) (ht0 : tys[t0]? = some (cI, .int)) (ht1 : tys[t1]? = some (cG, .array .int)) (hP : va_P D vwCl ws H) (hD : va_D A ws) (hS : va_S A H0 H locs) (hA : ∀ q, H0.size ≤ q → A q)
    (hcells : cells + 9 ≤ R.cells) (hslots : slots + 72 ≤ R.slots) (hdg : decode cc pc = .ok (.multianewarray index 2, 4))
    (kk : ∀ (q : Nat) (ga : Nat → Nat) (H1 : Heap), va_P D vwCl ((ws ++ [(q, .inl (cG, 8, .inr (.inr (.inr (.inr (fun i => some (ga i)))))))]) ++ rws cI ga (fun _ _ => 0)) H1 → va_D A ((ws ++ [(q, .inl (cG, 8, .inr (.inr (.inr (.inr (fun i => some (ga i)))))))]) ++ rws cI ga (fun _ _ => 0)) → va_S A H0 H1 locs →
      W p l e R s m args below meth c H1 locs (cells + 9) (slots + 72) Q (F0 m (pc + 4) ls (.ref q :: rest))) : W p l e R s m args below meth c H locs cells slots Q (F0 m pc ls (.int 8 :: .int 8 :: rest)) := by
  intro T hT X
  subst hb
  have hpl : e.platform.magicAccessors = ({} : Platform).magicAccessors := by rw [X.admits.platform]
  obtain ⟨comp, cG', kG, hcomp, hkG, hkindG, hnG⟩ := hover
  obtain ⟨comp', kI, ci, hcomp', hkI, hkindI⟩ := Cond.arrayClass_spec harr
  have ec : comp' = comp := Option.some.inj (hcomp'.symm.trans hcomp)
  subst ec
  have e0 : cI = comp' := Option.some.inj ((show s.vm.findClass ("[" ++ FieldType.int.toString) = some cI from (hK.2 t0 _ ht0).2).symm.trans hcomp')
  have e1 : cG = cG' := Option.some.inj ((show s.vm.findClass ("[" ++ (FieldType.array .int).toString) = some cG from (hK.2 t1 _ ht1).2).symm.trans hnG)
  subst e0
  subst e1
  obtain ⟨c0, hfc0, hcl⟩ := Cond.classLink_spec hown hclink e.platform hpl
  cases Option.some.inj ((show s.vm.findClass "[[I" = some cG from hnG).symm.trans hfc0)
  obtain ⟨hg₁, hwarm₁, hready₁⟩ := State.classEntry (e := e) X.warmed hcl
  generalize T.vm.noted m.cls index (.cls cG) = vm₁ at hg₁ hwarm₁ hready₁
  have hal : s.vm.Alike vm₁ := hwarm₁.alike
  obtain ⟨kG₁, hkG₁, heG⟩ := hal.2.2 _ _ hkG
  obtain ⟨kI₁, hkI₁, heI⟩ := hal.2.2 _ _ hkI
  have X₁ := X.noted hwarm₁
  obtain ⟨hr1, hr2⟩ := X.roomAbove hcells hslots
  have XF := xq_stand X₁ cG cI 8
  obtain ⟨f1, f2, -, -, f5, f6⟩ := xq_facts (T.setVm vm₁) cG cI 8
  have hTh : (T.setVm vm₁).heap = H := hT
  rw [hTh] at f1 f2 f5 f6
  have hP1 : va_P D vwCl ((ws ++ [(H.size, .inl (cG, 8, .inr (.inr (.inr (.inr (fun i => some (H.size + 1 + i)))))))]) ++ rws cI (fun i => H.size + 1 + i) (fun _ _ => 0)) (xq_f (T.setVm vm₁) cG cI 8).heap := by
    refine ((hP.kept (fun k x hx => f5 x.1 (hP k x hx).lt)).app (fun k x hx => ?_)).app (fun k x hx => ?_)
    · have h0 : k < 1 := (List.getElem?_eq_some_iff.mp hx).1
      rw [show k = 0 by omega] at hx
      cases hx
      show (xq_f (T.setVm vm₁) cG cI 8).heap[H.size]? = some (vp_cell cG (8, .inr (.inr (.inr (.inr (fun i => some (H.size + 1 + i)))))))
      rw [f2, vp_cell_q]
      exact congrArg some (arrV_congr (fun j hj => by simp [hj]))
    · obtain ⟨i, hi, rfl⟩ := List.mem_map.mp (List.mem_of_getElem? hx)
      exact f6 i (List.mem_range.mp hi)
  have hD1 : va_D A ((ws ++ [(H.size, .inl (cG, 8, .inr (.inr (.inr (.inr (fun i => some (H.size + 1 + i)))))))]) ++ rws cI (fun i => H.size + 1 + i) (fun _ _ => 0)) := by
    refine va_D.app (hD.push hP rfl (hA _ hS.1)) ⟨fun i j x y hi hj hxy => ?_, fun k x hx => ?_⟩ (fun i j x y hi hj hxy => ?_)
    · have hi8 : i < 8 := by have := (List.getElem?_eq_some_iff.mp hi).1; simpa [rws] using this
      have hj8 : j < 8 := by have := (List.getElem?_eq_some_iff.mp hj).1; simpa [rws] using this
      simp [rws, hi8] at hi
      simp [rws, hj8] at hj
      rw [← hi, ← hj] at hxy
      have hxy : H.size + 1 + i = H.size + 1 + j := hxy
      omega
    · obtain ⟨i, -, rfl⟩ := List.mem_map.mp (List.mem_of_getElem? hx)
      exact hA _ (by have := hS.1; show H0.size ≤ H.size + 1 + i; omega)
    · obtain ⟨i2, -, rfl⟩ := List.mem_map.mp (List.mem_of_getElem? hj)
      have hxy : x.1 = H.size + 1 + i2 := hxy
      rcases List.mem_append.mp (List.mem_of_getElem? hi) with h | h
      · obtain ⟨k, hk⟩ := List.getElem?_of_mem h
        have := (hP k x hk).lt
        omega
      · rw [List.mem_singleton] at h
        rw [h] at hxy
        have hxy : H.size = H.size + 1 + i2 := hxy
        omega
  obtain ⟨t, a1, b1⟩ := kk H.size (fun i => H.size + 1 + i) (xq_f (T.setVm vm₁) cG cI 8).heap hP1 hD1 ⟨by rw [f1]; have := hS.1; omega, fun x h1 h2 => (f5 x (Nat.lt_of_lt_of_le h1 hS.1)).trans (hS.2.1 x h1 h2), hS.2.2⟩ (xq_f (T.setVm vm₁) cG cI 8) rfl (by simpa [Nat.add_assoc] using XF)
  refine ⟨t, ?_, b1⟩
  jvm_step X.here [hexec, hdg]
  simp only [Op.multianewarray.sem, wp_bind', W.resolveClassAt_links (State.method?_setTop (F0 m pc ls (.int 8 :: .int 8 :: rest)) X.here.top) hg₁]
  rw [W.popN, if_neg (by decide)]
  refine ⟨F0 m pc ls (.int 8 :: .int 8 :: rest), State.topJava?_setTop' (s := T.setVm vm₁) _ X.here.top, [.int 8, .int 8], rest, rfl, rfl, ?_⟩
  simp only [List.mapM_cons, List.mapM_nil, wp_bind', wp_pure']
  refine xq_mk (kG := kG₁) (kI := kI₁) (cI := cI) (cc := ci) hkG₁ (by rw [heG]; exact hkindG) hkI₁ (by rw [heI]; exact hkindI) (by rw [Launch.admits_arrayLengthLimit X.admits]; decide) (by rw [Launch.admits_maxHeapBytes X.admits]; decide) (by show T.heap.size + 9 ≤ _; omega) (by show T.slotsUsed + 72 ≤ _; omega) (fun d' acts' => ?_)
  have eS : ((T.setTop (F0 m pc ls (.int 8 :: .int 8 :: rest))).setVm vm₁).setTop { (F0 m pc ls (.int 8 :: .int 8 :: rest)) with stack := rest } = (T.setVm vm₁).setTop { (F0 m pc ls (.int 8 :: .int 8 :: rest)) with stack := rest } := by
    show ((T.setVm vm₁).setTop _).setTop _ = _
    rw [State.setTop_setTop]
  rw [eS, xq_top]
  simp only [wp_bind', W.mark, W.pushRef, State.topJava?_setTop' _ XF.here.top, Option.some.injEq, exists_eq_left', State.setTop_setTop, State.heap_setTop]
  intro acts
  simp [jvm, XF.here.top]
  have e9 : T.heap.size = H.size := by rw [hT]
  rw [e9]
  exact a1
end XQR
end
section
/-! The constructors of the bench. -/
theorem k_91 {l : Launch} {s0 : State} {a0 : Array Value} {dC : Nat → ClassId} {dI : Nat → Nat → Nat} {cA : Nat → ClassId} {s : State} {args : Array Value} (h : xC l s0 a0 dC dI cA) (hb : xb s0 s) : (Cond.methodLinkNest RX5 25 yX1_init "FaultBench").before args s = true := va_Nw.use rfl (va_Nw.warmM hb.1 (va_Nw.of rfl (h.2.1 _ (List.mem_of_getElem? (i := 96) rfl))))
theorem xover {l : Launch} {s0 : State} {a0 : Array Value} {dC : Nat → ClassId} {dI : Nat → Nat → Nat} {cA : Nat → ClassId} {s : State} (h : xC l s0 a0 dC dI cA) (hb : xb s0 s) : ∃ comp c k, s.vm.findClass (FieldType.array .int).toString = some comp ∧ s.vm.classes[c]? = some k ∧ k.kind = .array comp (.array .int) ∧ s.vm.findClass ("[" ++ (FieldType.array .int).toString) = some c := by
  obtain ⟨comp, c, k, h1, h2, h3, h4⟩ := xq_over (h.2.1 (.arrayOver (.array .int)) (List.mem_of_getElem? (i := 80) rfl))
  obtain ⟨k', hk', he⟩ := hb.1.alike.2.2 _ _ h2
  exact ⟨comp, c, k', by rw [hb.1.alike.findClass]; exact h1, hk', by rw [he]; exact h3, by rw [hb.1.alike.findClass]; exact h4⟩
section XCN
variable {R : Room} {s : State} {args : Array Value}
theorem xCN {own host : String} {index n maxL mc ms : Nat} {y : MethodName} {bytes : ByteArray} {ret : Option FieldType} {rm : Room} (hcode : (Cond.code y bytes maxL ret).before args s = true) (hini : (Cond.initialized y.cls).before args s = true) (hl : (Cond.methodLinkNest own index y host).before args s = true)
    (hd : y.cls ≠ "java/lang/invoke/MethodHandle" ∧ y.cls ≠ "java/lang/invoke/VarHandle") (hn : (parseMethodDescriptor y.desc).map (fun d => d.parameters.length) = some n) (hrc : rm.cells = mc) (hrs : rm.slots = ms) (hR : rm.frames + 1 ≤ R.frames) (hR2 : 8 + (maxL + 11) + rm.locals ≤ R.locals) :
    va_CN R s args own index y host bytes maxL ret [.code y bytes maxL ret] rm mc ms n := by
  refine ⟨⟨hrc, hrs, hR, hR2, fun w hw a' U hW => ?_, List.mem_cons_self⟩, hcode, hini, hd, fun sig h => ?_, hl⟩
  · rw [List.mem_singleton] at hw
    rw [hw]
    exact xg_at hW rfl hcode
  · rw [h] at hn
    exact (Option.some.inj hn).symm
end XCN
/-- the first i lengths are 3 -/
def lz (i : Nat) : Nat → Int32 := fun j => if j < i then 3 else 0
theorem lz_0 : lz 0 = fun _ => 0 := by funext j; simp [lz]
theorem lz_s (i : Nat) : upd (lz i) i 3 = lz (i + 1) := by
  funext j
  by_cases h : j = i
  · simp [upd, lz, h]
  · by_cases g : j < i
    · simp [upd, lz, h, g, show j < i + 1 by omega]
    · simp [upd, lz, h, g, show ¬ j < i + 1 by omega]
/-- the grid's numbers, filled up to row i, place j -/
def gmx (i j : Nat) : Nat → Nat → Int32 := fun a b => if (a < i ∨ (a = i ∧ b < j)) ∧ b < 8 then 10 * nI a + nI b else 0
theorem gmx_0 : gmx 0 0 = fun _ _ => 0 := by funext a b; simp [gmx]
theorem gmx_s {i j : Nat} (hj : j < 8) : mset (gmx i j) i j (10 * nI i + nI j) = gmx i (j + 1) := by
  funext a b
  by_cases h1 : a = i
  · by_cases h2 : b = j
    · simp [mset, gmx, h1, h2, hj]
    · by_cases h3 : b < j
      · simp [mset, gmx, h1, h2, h3, show b < j + 1 by omega]
      · simp [mset, gmx, h1, h2, h3, show ¬ b < j + 1 by omega]
  · simp [mset, gmx, h1]
theorem gmx_e (i : Nat) : gmx i 8 = gmx (i + 1) 0 := by
  funext a b
  by_cases h1 : b < 8
  · by_cases h2 : a < i
    · simp [gmx, h1, h2, show a < i + 1 by omega]
    · by_cases h3 : a = i
      · simp [gmx, h1, h3]
      · simp [gmx, h1, h2, h3, show ¬ a < i + 1 by omega]
  · simp [gmx, h1]
theorem fz6 : FP.i2f 0 = 0 := by decide +kernel
theorem fz7 : FP.i2d 0 = 0 := by decide +kernel
theorem rz_0 : r0 (fun _ _ => 0) = fun _ => 0 := by funext i; rfl
theorem rz_1 : r1 (fun _ _ => 0) = fun _ => 0 := by funext i; rfl
theorem rz_2 : r2 (fun _ _ => 0) = fun _ => 0 := by funext i; rfl
theorem rz_3 : r3 (fun _ _ => 0) = fun _ => 0 := by funext i; rfl
theorem rz_4 : r4 (fun _ _ => 0) = fun _ => 0 := by funext i; rfl
theorem rz_5 : r5 (fun _ _ => 0) = fun _ => 0 := by funext i; rfl
theorem rz_6 : r6 (fun _ _ => 0) = fun _ => 0 := by funext i; exact fz6
theorem rz_7 : r7 (fun _ _ => 0) = fun _ => 0 := by funext i; exact fz7
set_option maxHeartbeats 4000000 in
set_option maxRecDepth 100000 in
theorem c_rowsInit {l : Launch} {s0 : State} {a0 : Array Value} {dC : Nat → ClassId} {dI : Nat → Nat → Nat} {cA : Nat → ClassId} (h : xC l s0 a0 dC dI cA) (ro : Nat) (sz : Nat)  : Met l yX4_init [Cond.code yX4_init cX4_init 2 none] ({ frames := 1, cells := 9, slots := 320, locals := 40 } : Room) (xPM s0 (dC, dI) [.ref ro] [] [(ro, .inr (4, [.null, .null, .null, .null, .null, .null, .null, .null, .null]))] sz) (xQM (dC, dI) (va_A [(ro, .inr (4, [.null, .null, .null, .null, .null, .null, .null, .null, .null]))] sz) (fun r w1 => ∃ b0 b1 b2 b3 b4 b5 b6 b7 b8 : Nat, r = none ∧ w1 = [(ro, .inr (4, [.ref b0, .ref b1, .ref b2, .ref b3, .ref b4, .ref b5, .ref b6, .ref b7, .ref b8])), (b0, .inl (cA 0, 8, .inl (lz 8))), (b1, .inl (cA 0, 39, .inl (r0 (fun _ _ => 0)))), (b2, .inl (cA 1, 39, .inr (.inl (r1 (fun _ _ => 0))))), (b3, .inl (cA 2, 39, .inl (r2 (fun _ _ => 0)))), (b4, .inl (cA 3, 39, .inl (r3 (fun _ _ => 0)))), (b5, .inl (cA 4, 39, .inl (r4 (fun _ _ => 0)))), (b6, .inl (cA 5, 39, .inl (r5 (fun _ _ => 0)))), (b7, .inl (cA 6, 39, .inr (.inr (.inl (r6 (fun _ _ => 0)))))), (b8, .inl (cA 7, 39, .inr (.inr (.inr (.inl (r7 (fun _ _ => 0)))))))])) 9 320 (va_A [(ro, .inr (4, [.null, .null, .null, .null, .null, .null, .null, .null, .null]))] sz) := by
  refine Met.ofW (cc := cX4_init) (maxL := 2) (ret := none) (by decide) rfl ?_
  intro p e s m args below meth c s₁ B hml hv
  obtain ⟨rfl, rfl, hb0, hPr, hP, hD0⟩ := hv
  have hx := B.exec
  have hb := B.bytes
  have hr := B.returns
  have hown : s.vm.findClass RX4 = some m.cls := findClass_of_methodNamed B.named
  have hlocks := B.notSynchronized
  have hK := h.K hb0
  have hin : meth.name = "<init>" := (name_of_methodNamed B.named B.method).1
  have hS : va_S (va_A [(ro, .inr (4, [.null, .null, .null, .null, .null, .null, .null, .null, .null]))] s.heap.size) s.heap s.heap [] := va_S.rf
  obtain ⟨A, hAe, hD, hA, hz, hRo, hwk, hnR⟩ := xM_start hb0 hPr hP hD0
  rw [hAe] at hS ⊢
  have hl := lv_entry ([.ref ro]) (n := 2) (Nat.le_of_ble_eq_true rfl)
  rw [lg_entry_eq]
  generalize (lg_sl ([.ref ro]) ++ List.replicate (2 - (lg_sl ([.ref ro])).length) Slot.unset).toArray = ls at hl ⊢
  have hl : lv_has ls 2 [(0, .ref ro)] := hl
  refine lv_aload_n hx hb dX4_init_0 rfl (lv_at hl 0 rfl) ?_
  refine W.objInit hx hb hown (k_31 h hb0) (k_24 h hb0) (k_25 h hb0) rfl (hl.1.trans hml.symm) rfl dX4_init_1 (Nat.le_of_ble_eq_true rfl) (Nat.le_of_ble_eq_true rfl) ?_
  show W _ _ _ _ _ _ _ _ _ _ _ _ _ _ _ (F0 m 4 ls [])
  refine lv_aload_n hx hb dX4_init_4 rfl (lv_at hl 0 rfl) ?_
  refine lv_bipush (v := 8) hx hb dX4_init_5 (by decide) ?_
  refine va_newa (atype := .int) (ty := .int) (N' := 8) (a0 := (8, .inl (fun _ => 0))) hx hb (k_60 h hb0) rfl hK hP hD hS hA (fun _ => rfl) (by decide) (by decide) (by decide) (Nat.le_of_ble_eq_true rfl) (Nat.le_of_ble_eq_true rfl) dX4_init_7 (fun b0 cN H hKn hP hD hS => ?_)
  obtain rfl : cN = cA 0 := xRA_eq (hKn.2 10 _ rfl).2 (hK.2 0 _ rfl).2
  clear hKn
  have hP : va_P (dC, dI) vwCl [(ro, .inr (4, [.null, .null, .null, .null, .null, .null, .null, .null, .null])), (b0, .inl (cA 0, 8, .inl (fun _ => 0)))] H := hP
  have hD : va_D A [(ro, .inr (4, [.null, .null, .null, .null, .null, .null, .null, .null, .null])), (b0, .inl (cA 0, 8, .inl (fun _ => 0)))] := hD
  refine va_putF (D := (dC, dI)) (ci := 4) (v := .ref b0) (ty := .array .int) (C := RX4) (T := TX4) (N := 9) hx hb (ly_4 h hb0) (fun _ z => z) tyX4 tyX4_ok nmX4 hown hK hP hD hS 0 rfl rfl 0 (by decide) (k_32 h hb0) (fun _ z => z) rfl hin rfl (by decide +kernel) rfl rfl (Nat.le_of_ble_eq_true rfl) dX4_init_9 (fun H locs hP hD hS => ?_)
  have hP : va_P (dC, dI) vwCl [(ro, .inr (4, [.ref b0, .null, .null, .null, .null, .null, .null, .null, .null])), (b0, .inl (cA 0, 8, .inl (fun _ => 0)))] H := hP
  have hD : va_D A [(ro, .inr (4, [.ref b0, .null, .null, .null, .null, .null, .null, .null, .null])), (b0, .inl (cA 0, 8, .inl (fun _ => 0)))] := hD
  refine lv_aload_n hx hb dX4_init_12 rfl (lv_at hl 0 rfl) ?_
  refine lv_bipush (v := 39) hx hb dX4_init_13 (by decide) ?_
  refine va_newa (atype := .int) (ty := .int) (N' := 39) (a0 := (39, .inl (fun _ => 0))) hx hb (k_60 h hb0) rfl hK hP hD hS hA (fun _ => rfl) (by decide) (by decide) (by decide) (Nat.le_of_ble_eq_true rfl) (Nat.le_of_ble_eq_true rfl) dX4_init_15 (fun b1 cN H hKn hP hD hS => ?_)
  obtain rfl : cN = cA 0 := xRA_eq (hKn.2 10 _ rfl).2 (hK.2 0 _ rfl).2
  clear hKn
  have hP : va_P (dC, dI) vwCl [(ro, .inr (4, [.ref b0, .null, .null, .null, .null, .null, .null, .null, .null])), (b0, .inl (cA 0, 8, .inl (fun _ => 0))), (b1, .inl (cA 0, 39, .inl (fun _ => 0)))] H := hP
  have hD : va_D A [(ro, .inr (4, [.ref b0, .null, .null, .null, .null, .null, .null, .null, .null])), (b0, .inl (cA 0, 8, .inl (fun _ => 0))), (b1, .inl (cA 0, 39, .inl (fun _ => 0)))] := hD
  refine va_putF (D := (dC, dI)) (ci := 4) (v := .ref b1) (ty := .array .int) (C := RX4) (T := TX4) (N := 9) hx hb (ly_4 h hb0) (fun _ z => z) tyX4 tyX4_ok nmX4 hown hK hP hD hS 0 rfl rfl 1 (by decide) (k_33 h hb0) (fun _ z => z) rfl hin rfl (by decide +kernel) rfl rfl (Nat.le_of_ble_eq_true rfl) dX4_init_17 (fun H locs hP hD hS => ?_)
  have hP : va_P (dC, dI) vwCl [(ro, .inr (4, [.ref b0, .ref b1, .null, .null, .null, .null, .null, .null, .null])), (b0, .inl (cA 0, 8, .inl (fun _ => 0))), (b1, .inl (cA 0, 39, .inl (fun _ => 0)))] H := hP
  have hD : va_D A [(ro, .inr (4, [.ref b0, .ref b1, .null, .null, .null, .null, .null, .null, .null])), (b0, .inl (cA 0, 8, .inl (fun _ => 0))), (b1, .inl (cA 0, 39, .inl (fun _ => 0)))] := hD
  refine lv_aload_n hx hb dX4_init_20 rfl (lv_at hl 0 rfl) ?_
  refine lv_bipush (v := 39) hx hb dX4_init_21 (by decide) ?_
  refine va_newa (atype := .long) (ty := .long) (N' := 39) (a0 := (39, .inr (.inl (fun _ => 0)))) hx hb (k_61 h hb0) rfl hK hP hD hS hA (fun _ => rfl) (by decide) (by decide) (by decide) (Nat.le_of_ble_eq_true rfl) (Nat.le_of_ble_eq_true rfl) dX4_init_23 (fun b2 cN H hKn hP hD hS => ?_)
  obtain rfl : cN = cA 1 := xRA_eq (hKn.2 10 _ rfl).2 (hK.2 1 _ rfl).2
  clear hKn
  have hP : va_P (dC, dI) vwCl [(ro, .inr (4, [.ref b0, .ref b1, .null, .null, .null, .null, .null, .null, .null])), (b0, .inl (cA 0, 8, .inl (fun _ => 0))), (b1, .inl (cA 0, 39, .inl (fun _ => 0))), (b2, .inl (cA 1, 39, .inr (.inl (fun _ => 0))))] H := hP
  have hD : va_D A [(ro, .inr (4, [.ref b0, .ref b1, .null, .null, .null, .null, .null, .null, .null])), (b0, .inl (cA 0, 8, .inl (fun _ => 0))), (b1, .inl (cA 0, 39, .inl (fun _ => 0))), (b2, .inl (cA 1, 39, .inr (.inl (fun _ => 0))))] := hD
  refine va_putF (D := (dC, dI)) (ci := 4) (v := .ref b2) (ty := .array .long) (C := RX4) (T := TX4) (N := 9) hx hb (ly_4 h hb0) (fun _ z => z) tyX4 tyX4_ok nmX4 hown hK hP hD hS 0 rfl rfl 2 (by decide) (k_34 h hb0) (fun _ z => z) rfl hin rfl (by decide +kernel) rfl rfl (Nat.le_of_ble_eq_true rfl) dX4_init_25 (fun H locs hP hD hS => ?_)
  have hP : va_P (dC, dI) vwCl [(ro, .inr (4, [.ref b0, .ref b1, .ref b2, .null, .null, .null, .null, .null, .null])), (b0, .inl (cA 0, 8, .inl (fun _ => 0))), (b1, .inl (cA 0, 39, .inl (fun _ => 0))), (b2, .inl (cA 1, 39, .inr (.inl (fun _ => 0))))] H := hP
  have hD : va_D A [(ro, .inr (4, [.ref b0, .ref b1, .ref b2, .null, .null, .null, .null, .null, .null])), (b0, .inl (cA 0, 8, .inl (fun _ => 0))), (b1, .inl (cA 0, 39, .inl (fun _ => 0))), (b2, .inl (cA 1, 39, .inr (.inl (fun _ => 0))))] := hD
  refine lv_aload_n hx hb dX4_init_28 rfl (lv_at hl 0 rfl) ?_
  refine lv_bipush (v := 39) hx hb dX4_init_29 (by decide) ?_
  refine va_newa (atype := .short) (ty := .short) (N' := 39) (a0 := (39, .inl (fun _ => 0))) hx hb (k_62 h hb0) rfl hK hP hD hS hA (fun _ => rfl) (by decide) (by decide) (by decide) (Nat.le_of_ble_eq_true rfl) (Nat.le_of_ble_eq_true rfl) dX4_init_31 (fun b3 cN H hKn hP hD hS => ?_)
  obtain rfl : cN = cA 2 := xRA_eq (hKn.2 10 _ rfl).2 (hK.2 2 _ rfl).2
  clear hKn
  have hP : va_P (dC, dI) vwCl [(ro, .inr (4, [.ref b0, .ref b1, .ref b2, .null, .null, .null, .null, .null, .null])), (b0, .inl (cA 0, 8, .inl (fun _ => 0))), (b1, .inl (cA 0, 39, .inl (fun _ => 0))), (b2, .inl (cA 1, 39, .inr (.inl (fun _ => 0)))), (b3, .inl (cA 2, 39, .inl (fun _ => 0)))] H := hP
  have hD : va_D A [(ro, .inr (4, [.ref b0, .ref b1, .ref b2, .null, .null, .null, .null, .null, .null])), (b0, .inl (cA 0, 8, .inl (fun _ => 0))), (b1, .inl (cA 0, 39, .inl (fun _ => 0))), (b2, .inl (cA 1, 39, .inr (.inl (fun _ => 0)))), (b3, .inl (cA 2, 39, .inl (fun _ => 0)))] := hD
  refine va_putF (D := (dC, dI)) (ci := 4) (v := .ref b3) (ty := .array .short) (C := RX4) (T := TX4) (N := 9) hx hb (ly_4 h hb0) (fun _ z => z) tyX4 tyX4_ok nmX4 hown hK hP hD hS 0 rfl rfl 3 (by decide) (k_35 h hb0) (fun _ z => z) rfl hin rfl (by decide +kernel) rfl rfl (Nat.le_of_ble_eq_true rfl) dX4_init_33 (fun H locs hP hD hS => ?_)
  have hP : va_P (dC, dI) vwCl [(ro, .inr (4, [.ref b0, .ref b1, .ref b2, .ref b3, .null, .null, .null, .null, .null])), (b0, .inl (cA 0, 8, .inl (fun _ => 0))), (b1, .inl (cA 0, 39, .inl (fun _ => 0))), (b2, .inl (cA 1, 39, .inr (.inl (fun _ => 0)))), (b3, .inl (cA 2, 39, .inl (fun _ => 0)))] H := hP
  have hD : va_D A [(ro, .inr (4, [.ref b0, .ref b1, .ref b2, .ref b3, .null, .null, .null, .null, .null])), (b0, .inl (cA 0, 8, .inl (fun _ => 0))), (b1, .inl (cA 0, 39, .inl (fun _ => 0))), (b2, .inl (cA 1, 39, .inr (.inl (fun _ => 0)))), (b3, .inl (cA 2, 39, .inl (fun _ => 0)))] := hD
  refine lv_aload_n hx hb dX4_init_36 rfl (lv_at hl 0 rfl) ?_
  refine lv_bipush (v := 39) hx hb dX4_init_37 (by decide) ?_
  refine va_newa (atype := .byte) (ty := .byte) (N' := 39) (a0 := (39, .inl (fun _ => 0))) hx hb (k_63 h hb0) rfl hK hP hD hS hA (fun _ => rfl) (by decide) (by decide) (by decide) (Nat.le_of_ble_eq_true rfl) (Nat.le_of_ble_eq_true rfl) dX4_init_39 (fun b4 cN H hKn hP hD hS => ?_)
  obtain rfl : cN = cA 3 := xRA_eq (hKn.2 10 _ rfl).2 (hK.2 3 _ rfl).2
  clear hKn
  have hP : va_P (dC, dI) vwCl [(ro, .inr (4, [.ref b0, .ref b1, .ref b2, .ref b3, .null, .null, .null, .null, .null])), (b0, .inl (cA 0, 8, .inl (fun _ => 0))), (b1, .inl (cA 0, 39, .inl (fun _ => 0))), (b2, .inl (cA 1, 39, .inr (.inl (fun _ => 0)))), (b3, .inl (cA 2, 39, .inl (fun _ => 0))), (b4, .inl (cA 3, 39, .inl (fun _ => 0)))] H := hP
  have hD : va_D A [(ro, .inr (4, [.ref b0, .ref b1, .ref b2, .ref b3, .null, .null, .null, .null, .null])), (b0, .inl (cA 0, 8, .inl (fun _ => 0))), (b1, .inl (cA 0, 39, .inl (fun _ => 0))), (b2, .inl (cA 1, 39, .inr (.inl (fun _ => 0)))), (b3, .inl (cA 2, 39, .inl (fun _ => 0))), (b4, .inl (cA 3, 39, .inl (fun _ => 0)))] := hD
  refine va_putF (D := (dC, dI)) (ci := 4) (v := .ref b4) (ty := .array .byte) (C := RX4) (T := TX4) (N := 9) hx hb (ly_4 h hb0) (fun _ z => z) tyX4 tyX4_ok nmX4 hown hK hP hD hS 0 rfl rfl 4 (by decide) (k_36 h hb0) (fun _ z => z) rfl hin rfl (by decide +kernel) rfl rfl (Nat.le_of_ble_eq_true rfl) dX4_init_41 (fun H locs hP hD hS => ?_)
  have hP : va_P (dC, dI) vwCl [(ro, .inr (4, [.ref b0, .ref b1, .ref b2, .ref b3, .ref b4, .null, .null, .null, .null])), (b0, .inl (cA 0, 8, .inl (fun _ => 0))), (b1, .inl (cA 0, 39, .inl (fun _ => 0))), (b2, .inl (cA 1, 39, .inr (.inl (fun _ => 0)))), (b3, .inl (cA 2, 39, .inl (fun _ => 0))), (b4, .inl (cA 3, 39, .inl (fun _ => 0)))] H := hP
  have hD : va_D A [(ro, .inr (4, [.ref b0, .ref b1, .ref b2, .ref b3, .ref b4, .null, .null, .null, .null])), (b0, .inl (cA 0, 8, .inl (fun _ => 0))), (b1, .inl (cA 0, 39, .inl (fun _ => 0))), (b2, .inl (cA 1, 39, .inr (.inl (fun _ => 0)))), (b3, .inl (cA 2, 39, .inl (fun _ => 0))), (b4, .inl (cA 3, 39, .inl (fun _ => 0)))] := hD
  refine lv_aload_n hx hb dX4_init_44 rfl (lv_at hl 0 rfl) ?_
  refine lv_bipush (v := 39) hx hb dX4_init_45 (by decide) ?_
  refine va_newa (atype := .char) (ty := .char) (N' := 39) (a0 := (39, .inl (fun _ => 0))) hx hb (k_64 h hb0) rfl hK hP hD hS hA (fun _ => rfl) (by decide) (by decide) (by decide) (Nat.le_of_ble_eq_true rfl) (Nat.le_of_ble_eq_true rfl) dX4_init_47 (fun b5 cN H hKn hP hD hS => ?_)
  obtain rfl : cN = cA 4 := xRA_eq (hKn.2 10 _ rfl).2 (hK.2 4 _ rfl).2
  clear hKn
  have hP : va_P (dC, dI) vwCl [(ro, .inr (4, [.ref b0, .ref b1, .ref b2, .ref b3, .ref b4, .null, .null, .null, .null])), (b0, .inl (cA 0, 8, .inl (fun _ => 0))), (b1, .inl (cA 0, 39, .inl (fun _ => 0))), (b2, .inl (cA 1, 39, .inr (.inl (fun _ => 0)))), (b3, .inl (cA 2, 39, .inl (fun _ => 0))), (b4, .inl (cA 3, 39, .inl (fun _ => 0))), (b5, .inl (cA 4, 39, .inl (fun _ => 0)))] H := hP
  have hD : va_D A [(ro, .inr (4, [.ref b0, .ref b1, .ref b2, .ref b3, .ref b4, .null, .null, .null, .null])), (b0, .inl (cA 0, 8, .inl (fun _ => 0))), (b1, .inl (cA 0, 39, .inl (fun _ => 0))), (b2, .inl (cA 1, 39, .inr (.inl (fun _ => 0)))), (b3, .inl (cA 2, 39, .inl (fun _ => 0))), (b4, .inl (cA 3, 39, .inl (fun _ => 0))), (b5, .inl (cA 4, 39, .inl (fun _ => 0)))] := hD
  refine va_putF (D := (dC, dI)) (ci := 4) (v := .ref b5) (ty := .array .char) (C := RX4) (T := TX4) (N := 9) hx hb (ly_4 h hb0) (fun _ z => z) tyX4 tyX4_ok nmX4 hown hK hP hD hS 0 rfl rfl 5 (by decide) (k_37 h hb0) (fun _ z => z) rfl hin rfl (by decide +kernel) rfl rfl (Nat.le_of_ble_eq_true rfl) dX4_init_49 (fun H locs hP hD hS => ?_)
  have hP : va_P (dC, dI) vwCl [(ro, .inr (4, [.ref b0, .ref b1, .ref b2, .ref b3, .ref b4, .ref b5, .null, .null, .null])), (b0, .inl (cA 0, 8, .inl (fun _ => 0))), (b1, .inl (cA 0, 39, .inl (fun _ => 0))), (b2, .inl (cA 1, 39, .inr (.inl (fun _ => 0)))), (b3, .inl (cA 2, 39, .inl (fun _ => 0))), (b4, .inl (cA 3, 39, .inl (fun _ => 0))), (b5, .inl (cA 4, 39, .inl (fun _ => 0)))] H := hP
  have hD : va_D A [(ro, .inr (4, [.ref b0, .ref b1, .ref b2, .ref b3, .ref b4, .ref b5, .null, .null, .null])), (b0, .inl (cA 0, 8, .inl (fun _ => 0))), (b1, .inl (cA 0, 39, .inl (fun _ => 0))), (b2, .inl (cA 1, 39, .inr (.inl (fun _ => 0)))), (b3, .inl (cA 2, 39, .inl (fun _ => 0))), (b4, .inl (cA 3, 39, .inl (fun _ => 0))), (b5, .inl (cA 4, 39, .inl (fun _ => 0)))] := hD
  refine lv_aload_n hx hb dX4_init_52 rfl (lv_at hl 0 rfl) ?_
  refine lv_bipush (v := 39) hx hb dX4_init_53 (by decide) ?_
  refine va_newa (atype := .boolean) (ty := .boolean) (N' := 39) (a0 := (39, .inl (fun _ => 0))) hx hb (k_65 h hb0) rfl hK hP hD hS hA (fun _ => rfl) (by decide) (by decide) (by decide) (Nat.le_of_ble_eq_true rfl) (Nat.le_of_ble_eq_true rfl) dX4_init_55 (fun b6 cN H hKn hP hD hS => ?_)
  obtain rfl : cN = cA 5 := xRA_eq (hKn.2 10 _ rfl).2 (hK.2 5 _ rfl).2
  clear hKn
  have hP : va_P (dC, dI) vwCl [(ro, .inr (4, [.ref b0, .ref b1, .ref b2, .ref b3, .ref b4, .ref b5, .null, .null, .null])), (b0, .inl (cA 0, 8, .inl (fun _ => 0))), (b1, .inl (cA 0, 39, .inl (fun _ => 0))), (b2, .inl (cA 1, 39, .inr (.inl (fun _ => 0)))), (b3, .inl (cA 2, 39, .inl (fun _ => 0))), (b4, .inl (cA 3, 39, .inl (fun _ => 0))), (b5, .inl (cA 4, 39, .inl (fun _ => 0))), (b6, .inl (cA 5, 39, .inl (fun _ => 0)))] H := hP
  have hD : va_D A [(ro, .inr (4, [.ref b0, .ref b1, .ref b2, .ref b3, .ref b4, .ref b5, .null, .null, .null])), (b0, .inl (cA 0, 8, .inl (fun _ => 0))), (b1, .inl (cA 0, 39, .inl (fun _ => 0))), (b2, .inl (cA 1, 39, .inr (.inl (fun _ => 0)))), (b3, .inl (cA 2, 39, .inl (fun _ => 0))), (b4, .inl (cA 3, 39, .inl (fun _ => 0))), (b5, .inl (cA 4, 39, .inl (fun _ => 0))), (b6, .inl (cA 5, 39, .inl (fun _ => 0)))] := hD
  refine va_putF (D := (dC, dI)) (ci := 4) (v := .ref b6) (ty := .array .boolean) (C := RX4) (T := TX4) (N := 9) hx hb (ly_4 h hb0) (fun _ z => z) tyX4 tyX4_ok nmX4 hown hK hP hD hS 0 rfl rfl 6 (by decide) (k_38 h hb0) (fun _ z => z) rfl hin rfl (by decide +kernel) rfl rfl (Nat.le_of_ble_eq_true rfl) dX4_init_57 (fun H locs hP hD hS => ?_)
  have hP : va_P (dC, dI) vwCl [(ro, .inr (4, [.ref b0, .ref b1, .ref b2, .ref b3, .ref b4, .ref b5, .ref b6, .null, .null])), (b0, .inl (cA 0, 8, .inl (fun _ => 0))), (b1, .inl (cA 0, 39, .inl (fun _ => 0))), (b2, .inl (cA 1, 39, .inr (.inl (fun _ => 0)))), (b3, .inl (cA 2, 39, .inl (fun _ => 0))), (b4, .inl (cA 3, 39, .inl (fun _ => 0))), (b5, .inl (cA 4, 39, .inl (fun _ => 0))), (b6, .inl (cA 5, 39, .inl (fun _ => 0)))] H := hP
  have hD : va_D A [(ro, .inr (4, [.ref b0, .ref b1, .ref b2, .ref b3, .ref b4, .ref b5, .ref b6, .null, .null])), (b0, .inl (cA 0, 8, .inl (fun _ => 0))), (b1, .inl (cA 0, 39, .inl (fun _ => 0))), (b2, .inl (cA 1, 39, .inr (.inl (fun _ => 0)))), (b3, .inl (cA 2, 39, .inl (fun _ => 0))), (b4, .inl (cA 3, 39, .inl (fun _ => 0))), (b5, .inl (cA 4, 39, .inl (fun _ => 0))), (b6, .inl (cA 5, 39, .inl (fun _ => 0)))] := hD
  refine lv_aload_n hx hb dX4_init_60 rfl (lv_at hl 0 rfl) ?_
  refine lv_bipush (v := 39) hx hb dX4_init_61 (by decide) ?_
  refine va_newa (atype := .float) (ty := .float) (N' := 39) (a0 := (39, .inr (.inr (.inl (fun _ => 0))))) hx hb (k_66 h hb0) rfl hK hP hD hS hA (fun _ => rfl) (by decide) (by decide) (by decide) (Nat.le_of_ble_eq_true rfl) (Nat.le_of_ble_eq_true rfl) dX4_init_63 (fun b7 cN H hKn hP hD hS => ?_)
  obtain rfl : cN = cA 6 := xRA_eq (hKn.2 10 _ rfl).2 (hK.2 6 _ rfl).2
  clear hKn
  have hP : va_P (dC, dI) vwCl [(ro, .inr (4, [.ref b0, .ref b1, .ref b2, .ref b3, .ref b4, .ref b5, .ref b6, .null, .null])), (b0, .inl (cA 0, 8, .inl (fun _ => 0))), (b1, .inl (cA 0, 39, .inl (fun _ => 0))), (b2, .inl (cA 1, 39, .inr (.inl (fun _ => 0)))), (b3, .inl (cA 2, 39, .inl (fun _ => 0))), (b4, .inl (cA 3, 39, .inl (fun _ => 0))), (b5, .inl (cA 4, 39, .inl (fun _ => 0))), (b6, .inl (cA 5, 39, .inl (fun _ => 0))), (b7, .inl (cA 6, 39, .inr (.inr (.inl (fun _ => 0)))))] H := hP
  have hD : va_D A [(ro, .inr (4, [.ref b0, .ref b1, .ref b2, .ref b3, .ref b4, .ref b5, .ref b6, .null, .null])), (b0, .inl (cA 0, 8, .inl (fun _ => 0))), (b1, .inl (cA 0, 39, .inl (fun _ => 0))), (b2, .inl (cA 1, 39, .inr (.inl (fun _ => 0)))), (b3, .inl (cA 2, 39, .inl (fun _ => 0))), (b4, .inl (cA 3, 39, .inl (fun _ => 0))), (b5, .inl (cA 4, 39, .inl (fun _ => 0))), (b6, .inl (cA 5, 39, .inl (fun _ => 0))), (b7, .inl (cA 6, 39, .inr (.inr (.inl (fun _ => 0)))))] := hD
  refine va_putF (D := (dC, dI)) (ci := 4) (v := .ref b7) (ty := .array .float) (C := RX4) (T := TX4) (N := 9) hx hb (ly_4 h hb0) (fun _ z => z) tyX4 tyX4_ok nmX4 hown hK hP hD hS 0 rfl rfl 7 (by decide) (k_39 h hb0) (fun _ z => z) rfl hin rfl (by decide +kernel) rfl rfl (Nat.le_of_ble_eq_true rfl) dX4_init_65 (fun H locs hP hD hS => ?_)
  have hP : va_P (dC, dI) vwCl [(ro, .inr (4, [.ref b0, .ref b1, .ref b2, .ref b3, .ref b4, .ref b5, .ref b6, .ref b7, .null])), (b0, .inl (cA 0, 8, .inl (fun _ => 0))), (b1, .inl (cA 0, 39, .inl (fun _ => 0))), (b2, .inl (cA 1, 39, .inr (.inl (fun _ => 0)))), (b3, .inl (cA 2, 39, .inl (fun _ => 0))), (b4, .inl (cA 3, 39, .inl (fun _ => 0))), (b5, .inl (cA 4, 39, .inl (fun _ => 0))), (b6, .inl (cA 5, 39, .inl (fun _ => 0))), (b7, .inl (cA 6, 39, .inr (.inr (.inl (fun _ => 0)))))] H := hP
  have hD : va_D A [(ro, .inr (4, [.ref b0, .ref b1, .ref b2, .ref b3, .ref b4, .ref b5, .ref b6, .ref b7, .null])), (b0, .inl (cA 0, 8, .inl (fun _ => 0))), (b1, .inl (cA 0, 39, .inl (fun _ => 0))), (b2, .inl (cA 1, 39, .inr (.inl (fun _ => 0)))), (b3, .inl (cA 2, 39, .inl (fun _ => 0))), (b4, .inl (cA 3, 39, .inl (fun _ => 0))), (b5, .inl (cA 4, 39, .inl (fun _ => 0))), (b6, .inl (cA 5, 39, .inl (fun _ => 0))), (b7, .inl (cA 6, 39, .inr (.inr (.inl (fun _ => 0)))))] := hD
  refine lv_aload_n hx hb dX4_init_68 rfl (lv_at hl 0 rfl) ?_
  refine lv_bipush (v := 39) hx hb dX4_init_69 (by decide) ?_
  refine va_newa (atype := .double) (ty := .double) (N' := 39) (a0 := (39, .inr (.inr (.inr (.inl (fun _ => 0)))))) hx hb (k_67 h hb0) rfl hK hP hD hS hA (fun _ => rfl) (by decide) (by decide) (by decide) (Nat.le_of_ble_eq_true rfl) (Nat.le_of_ble_eq_true rfl) dX4_init_71 (fun b8 cN H hKn hP hD hS => ?_)
  obtain rfl : cN = cA 7 := xRA_eq (hKn.2 10 _ rfl).2 (hK.2 7 _ rfl).2
  clear hKn
  have hP : va_P (dC, dI) vwCl [(ro, .inr (4, [.ref b0, .ref b1, .ref b2, .ref b3, .ref b4, .ref b5, .ref b6, .ref b7, .null])), (b0, .inl (cA 0, 8, .inl (fun _ => 0))), (b1, .inl (cA 0, 39, .inl (fun _ => 0))), (b2, .inl (cA 1, 39, .inr (.inl (fun _ => 0)))), (b3, .inl (cA 2, 39, .inl (fun _ => 0))), (b4, .inl (cA 3, 39, .inl (fun _ => 0))), (b5, .inl (cA 4, 39, .inl (fun _ => 0))), (b6, .inl (cA 5, 39, .inl (fun _ => 0))), (b7, .inl (cA 6, 39, .inr (.inr (.inl (fun _ => 0))))), (b8, .inl (cA 7, 39, .inr (.inr (.inr (.inl (fun _ => 0))))))] H := hP
  have hD : va_D A [(ro, .inr (4, [.ref b0, .ref b1, .ref b2, .ref b3, .ref b4, .ref b5, .ref b6, .ref b7, .null])), (b0, .inl (cA 0, 8, .inl (fun _ => 0))), (b1, .inl (cA 0, 39, .inl (fun _ => 0))), (b2, .inl (cA 1, 39, .inr (.inl (fun _ => 0)))), (b3, .inl (cA 2, 39, .inl (fun _ => 0))), (b4, .inl (cA 3, 39, .inl (fun _ => 0))), (b5, .inl (cA 4, 39, .inl (fun _ => 0))), (b6, .inl (cA 5, 39, .inl (fun _ => 0))), (b7, .inl (cA 6, 39, .inr (.inr (.inl (fun _ => 0))))), (b8, .inl (cA 7, 39, .inr (.inr (.inr (.inl (fun _ => 0))))))] := hD
  refine va_putF (D := (dC, dI)) (ci := 4) (v := .ref b8) (ty := .array .double) (C := RX4) (T := TX4) (N := 9) hx hb (ly_4 h hb0) (fun _ z => z) tyX4 tyX4_ok nmX4 hown hK hP hD hS 0 rfl rfl 8 (by decide) (k_40 h hb0) (fun _ z => z) rfl hin rfl (by decide +kernel) rfl rfl (Nat.le_of_ble_eq_true rfl) dX4_init_73 (fun H locs hP hD hS => ?_)
  have hP : va_P (dC, dI) vwCl [(ro, .inr (4, [.ref b0, .ref b1, .ref b2, .ref b3, .ref b4, .ref b5, .ref b6, .ref b7, .ref b8])), (b0, .inl (cA 0, 8, .inl (fun _ => 0))), (b1, .inl (cA 0, 39, .inl (fun _ => 0))), (b2, .inl (cA 1, 39, .inr (.inl (fun _ => 0)))), (b3, .inl (cA 2, 39, .inl (fun _ => 0))), (b4, .inl (cA 3, 39, .inl (fun _ => 0))), (b5, .inl (cA 4, 39, .inl (fun _ => 0))), (b6, .inl (cA 5, 39, .inl (fun _ => 0))), (b7, .inl (cA 6, 39, .inr (.inr (.inl (fun _ => 0))))), (b8, .inl (cA 7, 39, .inr (.inr (.inr (.inl (fun _ => 0))))))] H := hP
  have hD : va_D A [(ro, .inr (4, [.ref b0, .ref b1, .ref b2, .ref b3, .ref b4, .ref b5, .ref b6, .ref b7, .ref b8])), (b0, .inl (cA 0, 8, .inl (fun _ => 0))), (b1, .inl (cA 0, 39, .inl (fun _ => 0))), (b2, .inl (cA 1, 39, .inr (.inl (fun _ => 0)))), (b3, .inl (cA 2, 39, .inl (fun _ => 0))), (b4, .inl (cA 3, 39, .inl (fun _ => 0))), (b5, .inl (cA 4, 39, .inl (fun _ => 0))), (b6, .inl (cA 5, 39, .inl (fun _ => 0))), (b7, .inl (cA 6, 39, .inr (.inr (.inl (fun _ => 0))))), (b8, .inl (cA 7, 39, .inr (.inr (.inr (.inl (fun _ => 0))))))] := hD
  refine lv_iconst (v := 0) hx hb dX4_init_76 (by decide) ?_
  refine lv_istore_n (lv' := [(1, .int 0), (0, .ref ro)]) hx hb dX4_init_77 rfl hl (by decide) rfl (fun ls hl => ?_)
  refine xloop (σ := Array Slot × Heap × List Loc) (fun i z => lv_has z.1 2 [(1, .int (nI i)), (0, .ref ro)] ∧ va_P (dC, dI) vwCl [(ro, .inr (4, [.ref b0, .ref b1, .ref b2, .ref b3, .ref b4, .ref b5, .ref b6, .ref b7, .ref b8])), (b0, .inl (cA 0, 8, .inl (lz i))), (b1, .inl (cA 0, 39, .inl (fun _ => 0))), (b2, .inl (cA 1, 39, .inr (.inl (fun _ => 0)))), (b3, .inl (cA 2, 39, .inl (fun _ => 0))), (b4, .inl (cA 3, 39, .inl (fun _ => 0))), (b5, .inl (cA 4, 39, .inl (fun _ => 0))), (b6, .inl (cA 5, 39, .inl (fun _ => 0))), (b7, .inl (cA 6, 39, .inr (.inr (.inl (fun _ => 0))))), (b8, .inl (cA 7, 39, .inr (.inr (.inr (.inl (fun _ => 0))))))] z.2.1 ∧ va_D A [(ro, .inr (4, [.ref b0, .ref b1, .ref b2, .ref b3, .ref b4, .ref b5, .ref b6, .ref b7, .ref b8])), (b0, .inl (cA 0, 8, .inl (lz i))), (b1, .inl (cA 0, 39, .inl (fun _ => 0))), (b2, .inl (cA 1, 39, .inr (.inl (fun _ => 0)))), (b3, .inl (cA 2, 39, .inl (fun _ => 0))), (b4, .inl (cA 3, 39, .inl (fun _ => 0))), (b5, .inl (cA 4, 39, .inl (fun _ => 0))), (b6, .inl (cA 5, 39, .inl (fun _ => 0))), (b7, .inl (cA 6, 39, .inr (.inr (.inl (fun _ => 0))))), (b8, .inl (cA 7, 39, .inr (.inr (.inr (.inl (fun _ => 0))))))] ∧ va_S A s.heap z.2.1 z.2.2) (fun z => W p l e _ s m _ below meth c z.2.1 z.2.2 _ _ _ (F0 m 78 z.1 [])) 8 ?_ ?_ (ls, _, _) ⟨hl, by rw [lz_0]; exact hP, by rw [lz_0]; exact hD, hS⟩
  · rintro i ⟨ls, H, locs⟩ hi ⟨hl, hP, hD, hS⟩ ih
    have hl : lv_has ls 2 [(1, .int (nI i)), (0, .ref ro)] := hl
    have hP : va_P (dC, dI) vwCl [(ro, .inr (4, [.ref b0, .ref b1, .ref b2, .ref b3, .ref b4, .ref b5, .ref b6, .ref b7, .ref b8])), (b0, .inl (cA 0, 8, .inl (lz i))), (b1, .inl (cA 0, 39, .inl (fun _ => 0))), (b2, .inl (cA 1, 39, .inr (.inl (fun _ => 0)))), (b3, .inl (cA 2, 39, .inl (fun _ => 0))), (b4, .inl (cA 3, 39, .inl (fun _ => 0))), (b5, .inl (cA 4, 39, .inl (fun _ => 0))), (b6, .inl (cA 5, 39, .inl (fun _ => 0))), (b7, .inl (cA 6, 39, .inr (.inr (.inl (fun _ => 0))))), (b8, .inl (cA 7, 39, .inr (.inr (.inr (.inl (fun _ => 0))))))] H := hP
    have hD : va_D A [(ro, .inr (4, [.ref b0, .ref b1, .ref b2, .ref b3, .ref b4, .ref b5, .ref b6, .ref b7, .ref b8])), (b0, .inl (cA 0, 8, .inl (lz i))), (b1, .inl (cA 0, 39, .inl (fun _ => 0))), (b2, .inl (cA 1, 39, .inr (.inl (fun _ => 0)))), (b3, .inl (cA 2, 39, .inl (fun _ => 0))), (b4, .inl (cA 3, 39, .inl (fun _ => 0))), (b5, .inl (cA 4, 39, .inl (fun _ => 0))), (b6, .inl (cA 5, 39, .inl (fun _ => 0))), (b7, .inl (cA 6, 39, .inr (.inr (.inl (fun _ => 0))))), (b8, .inl (cA 7, 39, .inr (.inr (.inr (.inl (fun _ => 0))))))] := hD
    have hS : va_S A s.heap H locs := hS
    show W p l e _ s m _ below meth c H locs _ _ _ (F0 m 78 ls [])
    refine lv_iload_n hx hb dX4_init_78 rfl (lv_at hl 0 rfl) ?_
    refine lv_bipush (v := 8) hx hb dX4_init_79 (by decide) ?_
    refine lv_icmp_ge (tgt := 97) hx hb dX4_init_81 (by decide) (fun c_1 => ?_) (fun c_1 => ?_)
    · exact absurd c_1 (nI_ge hi (by decide))
    · refine lv_aload_n hx hb dX4_init_84 rfl (lv_at hl 1 rfl) ?_
      refine va_get (D := (dC, dI)) (ci := 4) (v := .ref b0) (C := RX4) (T := TX4) (N := 9) hx hb (ly_4 h hb0) (fun _ z => z) hown hK hP 0 rfl rfl 0 (by decide) (k_32 h hb0) (fun _ z => z) rfl dX4_init_85 ?_
      refine lv_iload_n hx hb dX4_init_88 rfl (lv_at hl 0 rfl) ?_
      refine lv_iconst (v := 3) hx hb dX4_init_89 (by decide) ?_
      refine va_iast hx hb hK hP hD hS 1 0 rfl rfl (vp_in_nI hi (by decide)) dX4_init_90 (fun H locs hP hD hS => ?_)
      have hP : va_P (dC, dI) vwCl [(ro, .inr (4, [.ref b0, .ref b1, .ref b2, .ref b3, .ref b4, .ref b5, .ref b6, .ref b7, .ref b8])), (b0, .inl (cA 0, 8, .inl (upd (lz i) (nI i).toNatClampNeg 3))), (b1, .inl (cA 0, 39, .inl (fun _ => 0))), (b2, .inl (cA 1, 39, .inr (.inl (fun _ => 0)))), (b3, .inl (cA 2, 39, .inl (fun _ => 0))), (b4, .inl (cA 3, 39, .inl (fun _ => 0))), (b5, .inl (cA 4, 39, .inl (fun _ => 0))), (b6, .inl (cA 5, 39, .inl (fun _ => 0))), (b7, .inl (cA 6, 39, .inr (.inr (.inl (fun _ => 0))))), (b8, .inl (cA 7, 39, .inr (.inr (.inr (.inl (fun _ => 0))))))] H := hP
      have hD : va_D A [(ro, .inr (4, [.ref b0, .ref b1, .ref b2, .ref b3, .ref b4, .ref b5, .ref b6, .ref b7, .ref b8])), (b0, .inl (cA 0, 8, .inl (upd (lz i) (nI i).toNatClampNeg 3))), (b1, .inl (cA 0, 39, .inl (fun _ => 0))), (b2, .inl (cA 1, 39, .inr (.inl (fun _ => 0)))), (b3, .inl (cA 2, 39, .inl (fun _ => 0))), (b4, .inl (cA 3, 39, .inl (fun _ => 0))), (b5, .inl (cA 4, 39, .inl (fun _ => 0))), (b6, .inl (cA 5, 39, .inl (fun _ => 0))), (b7, .inl (cA 6, 39, .inr (.inr (.inl (fun _ => 0))))), (b8, .inl (cA 7, 39, .inr (.inr (.inr (.inl (fun _ => 0))))))] := hD
      refine lv_iinc (lv' := [(1, .int (nI (i + 1))), (0, .ref ro)]) hx hb dX4_init_91 hl (k := 0) rfl (nI_1 _) (by decide) rfl (fun ls hl => ?_)
      refine lv_goto (tgt := 78) hx hb dX4_init_94 (by decide) ?_
      rw [nI_clamp (by omega), lz_s] at hP hD
      exact ih (ls, _, _) ⟨hl, hP, hD, hS⟩
  · rintro ⟨ls, H, locs⟩ ⟨hl, hP, hD, hS⟩
    have hl : lv_has ls 2 [(1, .int (nI 8)), (0, .ref ro)] := hl
    have hP : va_P (dC, dI) vwCl [(ro, .inr (4, [.ref b0, .ref b1, .ref b2, .ref b3, .ref b4, .ref b5, .ref b6, .ref b7, .ref b8])), (b0, .inl (cA 0, 8, .inl (lz 8))), (b1, .inl (cA 0, 39, .inl (fun _ => 0))), (b2, .inl (cA 1, 39, .inr (.inl (fun _ => 0)))), (b3, .inl (cA 2, 39, .inl (fun _ => 0))), (b4, .inl (cA 3, 39, .inl (fun _ => 0))), (b5, .inl (cA 4, 39, .inl (fun _ => 0))), (b6, .inl (cA 5, 39, .inl (fun _ => 0))), (b7, .inl (cA 6, 39, .inr (.inr (.inl (fun _ => 0))))), (b8, .inl (cA 7, 39, .inr (.inr (.inr (.inl (fun _ => 0))))))] H := hP
    have hD : va_D A [(ro, .inr (4, [.ref b0, .ref b1, .ref b2, .ref b3, .ref b4, .ref b5, .ref b6, .ref b7, .ref b8])), (b0, .inl (cA 0, 8, .inl (lz 8))), (b1, .inl (cA 0, 39, .inl (fun _ => 0))), (b2, .inl (cA 1, 39, .inr (.inl (fun _ => 0)))), (b3, .inl (cA 2, 39, .inl (fun _ => 0))), (b4, .inl (cA 3, 39, .inl (fun _ => 0))), (b5, .inl (cA 4, 39, .inl (fun _ => 0))), (b6, .inl (cA 5, 39, .inl (fun _ => 0))), (b7, .inl (cA 6, 39, .inr (.inr (.inl (fun _ => 0))))), (b8, .inl (cA 7, 39, .inr (.inr (.inr (.inl (fun _ => 0))))))] := hD
    have hS : va_S A s.heap H locs := hS
    show W p l e _ s m _ below meth c H locs _ _ _ (F0 m 78 ls [])
    refine lv_iload_n hx hb dX4_init_78 rfl (lv_at hl 0 rfl) ?_
    refine lv_bipush (v := 8) hx hb dX4_init_79 (by decide) ?_
    refine lv_icmp_ge (tgt := 97) hx hb dX4_init_81 (by decide) (fun c_2 => ?_) (fun c_2 => ?_)
    · exact W.vret hx hb hr (fun t ht _ => ⟨none, _, rfl, ⟨b0, b1, b2, b3, b4, b5, b6, b7, b8, rfl, by rw [rz_0, rz_1, rz_2, rz_3, rz_4, rz_5, rz_6, rz_7]⟩, by rw [ht]; exact hP, hD, hS.F ht⟩) (fun q z => hS.2.2 q z) dX4_init_97
    · exact absurd (by decide) c_2
set_option maxHeartbeats 4000000 in
set_option maxRecDepth 100000 in
theorem c_gridInit {l : Launch} {s0 : State} {a0 : Array Value} {dC : Nat → ClassId} {dI : Nat → Nat → Nat} {cA : Nat → ClassId} (h : xC l s0 a0 dC dI cA) (gr : Nat) (sz : Nat)  : Met l yX3_init [Cond.code yX3_init cX3_init 3 none] ({ frames := 1, cells := 9, slots := 72, locals := 40 } : Room) (xPM s0 (dC, dI) [.ref gr] [] [(gr, .inr (3, [.null, .int 0, .int 0, .int 0]))] sz) (xQM (dC, dI) (va_A [(gr, .inr (3, [.null, .int 0, .int 0, .int 0]))] sz) (fun r w1 => ∃ (gc : Nat) (ga : Nat → Nat), r = none ∧ w1 = [(gr, .inr (3, [.ref gc, .int 0, .int 0, .int 0])), (gc, .inl (cA 9, 8, .inr (.inr (.inr (.inr (fun i => some (ga i)))))))] ++ rws (cA 0) ga (gmx 8 0))) 9 72 (va_A [(gr, .inr (3, [.null, .int 0, .int 0, .int 0]))] sz) := by
  refine Met.ofW (cc := cX3_init) (maxL := 3) (ret := none) (by decide) rfl ?_
  intro p e s m args below meth c s₁ B hml hv
  obtain ⟨rfl, rfl, hb0, hPr, hP, hD0⟩ := hv
  have hx := B.exec
  have hb := B.bytes
  have hr := B.returns
  have hown : s.vm.findClass RX3 = some m.cls := findClass_of_methodNamed B.named
  have hlocks := B.notSynchronized
  have hK := h.K hb0
  have hin : meth.name = "<init>" := (name_of_methodNamed B.named B.method).1
  have hS : va_S (va_A [(gr, .inr (3, [.null, .int 0, .int 0, .int 0]))] s.heap.size) s.heap s.heap [] := va_S.rf
  obtain ⟨A, hAe, hD, hA, hz, hRo, hwk, hnR⟩ := xM_start hb0 hPr hP hD0
  rw [hAe] at hS ⊢
  have hl := lv_entry ([.ref gr]) (n := 3) (Nat.le_of_ble_eq_true rfl)
  rw [lg_entry_eq]
  generalize (lg_sl ([.ref gr]) ++ List.replicate (3 - (lg_sl ([.ref gr])).length) Slot.unset).toArray = ls at hl ⊢
  have hl : lv_has ls 3 [(0, .ref gr)] := hl
  refine lv_aload_n hx hb dX3_init_0 rfl (lv_at hl 0 rfl) ?_
  refine W.objInit hx hb hown (k_73 h hb0) (k_24 h hb0) (k_25 h hb0) rfl (hl.1.trans hml.symm) rfl dX3_init_1 (Nat.le_of_ble_eq_true rfl) (Nat.le_of_ble_eq_true rfl) ?_
  show W _ _ _ _ _ _ _ _ _ _ _ _ _ _ _ (F0 m 4 ls [])
  refine lv_aload_n hx hb dX3_init_4 rfl (lv_at hl 0 rfl) ?_
  refine lv_bipush (v := 8) hx hb dX3_init_5 (by decide) ?_
  refine lv_bipush (v := 8) hx hb dX3_init_7 (by decide) ?_
  refine xmulti (t0 := 0) (t1 := 9) (cI := cA 0) (cG := cA 9) hx hb hown (k_74 h hb0) (xover h hb0) (k_60 h hb0) hK rfl rfl hP hD hS hA (Nat.le_of_ble_eq_true rfl) (Nat.le_of_ble_eq_true rfl) dX3_init_9 (fun gc ga H hP hD hS => ?_)
  have hP : va_P (dC, dI) vwCl ([(gr, .inr (3, [.null, .int 0, .int 0, .int 0])), (gc, .inl (cA 9, 8, .inr (.inr (.inr (.inr (fun i => some (ga i)))))))] ++ rws (cA 0) ga (fun _ _ => 0)) H := hP
  have hD : va_D A ([(gr, .inr (3, [.null, .int 0, .int 0, .int 0])), (gc, .inl (cA 9, 8, .inr (.inr (.inr (.inr (fun i => some (ga i)))))))] ++ rws (cA 0) ga (fun _ _ => 0)) := hD
  refine va_putF (D := (dC, dI)) (ci := 3) (v := .ref gc) (ty := .array (.array .int)) (C := RX3) (T := TX3) (N := 4) hx hb (ly_3 h hb0) (fun _ z => z) tyX3 tyX3_ok nmX3 hown hK hP hD hS 0 rfl rfl 0 (by decide) (k_76 h hb0) (fun _ z => z) rfl hin rfl (by decide +kernel) rfl rfl (Nat.le_of_ble_eq_true rfl) dX3_init_13 (fun H locs hP hD hS => ?_)
  have hP : va_P (dC, dI) vwCl ([(gr, .inr (3, [.ref gc, .int 0, .int 0, .int 0])), (gc, .inl (cA 9, 8, .inr (.inr (.inr (.inr (fun i => some (ga i)))))))] ++ rws (cA 0) ga (fun _ _ => 0)) H := hP
  have hD : va_D A ([(gr, .inr (3, [.ref gc, .int 0, .int 0, .int 0])), (gc, .inl (cA 9, 8, .inr (.inr (.inr (.inr (fun i => some (ga i)))))))] ++ rws (cA 0) ga (fun _ _ => 0)) := hD
  refine lv_aload_n hx hb dX3_init_16 rfl (lv_at hl 0 rfl) ?_
  refine lv_iconst (v := 0) hx hb dX3_init_17 (by decide) ?_
  refine va_put (D := (dC, dI)) (ci := 3) (v := .int 0) (ty := .boolean) (C := RX3) (T := TX3) (N := 4) hx hb (ly_3 h hb0) (fun _ z => z) tyX3 tyX3_ok nmX3 hown hK hP hD hS 0 rfl rfl 1 (by decide) (k_77 h hb0) (fun _ z => z) rfl (by decide +kernel) rfl rfl (Nat.le_of_ble_eq_true rfl) dX3_init_18 (fun H locs hP hD hS => ?_)
  have hP : va_P (dC, dI) vwCl ([(gr, .inr (3, [.ref gc, .int 0, .int 0, .int 0])), (gc, .inl (cA 9, 8, .inr (.inr (.inr (.inr (fun i => some (ga i)))))))] ++ rws (cA 0) ga (fun _ _ => 0)) H := hP
  have hD : va_D A ([(gr, .inr (3, [.ref gc, .int 0, .int 0, .int 0])), (gc, .inl (cA 9, 8, .inr (.inr (.inr (.inr (fun i => some (ga i)))))))] ++ rws (cA 0) ga (fun _ _ => 0)) := hD
  refine lv_aload_n hx hb dX3_init_21 rfl (lv_at hl 0 rfl) ?_
  refine lv_iconst (v := 0) hx hb dX3_init_22 (by decide) ?_
  refine va_put (D := (dC, dI)) (ci := 3) (v := .int 0) (ty := .int) (C := RX3) (T := TX3) (N := 4) hx hb (ly_3 h hb0) (fun _ z => z) tyX3 tyX3_ok nmX3 hown hK hP hD hS 0 rfl rfl 2 (by decide) (k_78 h hb0) (fun _ z => z) rfl (by decide +kernel) rfl rfl (Nat.le_of_ble_eq_true rfl) dX3_init_23 (fun H locs hP hD hS => ?_)
  have hP : va_P (dC, dI) vwCl ([(gr, .inr (3, [.ref gc, .int 0, .int 0, .int 0])), (gc, .inl (cA 9, 8, .inr (.inr (.inr (.inr (fun i => some (ga i)))))))] ++ rws (cA 0) ga (fun _ _ => 0)) H := hP
  have hD : va_D A ([(gr, .inr (3, [.ref gc, .int 0, .int 0, .int 0])), (gc, .inl (cA 9, 8, .inr (.inr (.inr (.inr (fun i => some (ga i)))))))] ++ rws (cA 0) ga (fun _ _ => 0)) := hD
  refine lv_aload_n hx hb dX3_init_26 rfl (lv_at hl 0 rfl) ?_
  refine lv_iconst (v := 0) hx hb dX3_init_27 (by decide) ?_
  refine va_put (D := (dC, dI)) (ci := 3) (v := .int 0) (ty := .int) (C := RX3) (T := TX3) (N := 4) hx hb (ly_3 h hb0) (fun _ z => z) tyX3 tyX3_ok nmX3 hown hK hP hD hS 0 rfl rfl 3 (by decide) (k_79 h hb0) (fun _ z => z) rfl (by decide +kernel) rfl rfl (Nat.le_of_ble_eq_true rfl) dX3_init_28 (fun H locs hP hD hS => ?_)
  have hP : va_P (dC, dI) vwCl ([(gr, .inr (3, [.ref gc, .int 0, .int 0, .int 0])), (gc, .inl (cA 9, 8, .inr (.inr (.inr (.inr (fun i => some (ga i)))))))] ++ rws (cA 0) ga (fun _ _ => 0)) H := hP
  have hD : va_D A ([(gr, .inr (3, [.ref gc, .int 0, .int 0, .int 0])), (gc, .inl (cA 9, 8, .inr (.inr (.inr (.inr (fun i => some (ga i)))))))] ++ rws (cA 0) ga (fun _ _ => 0)) := hD
  refine lv_iconst (v := 0) hx hb dX3_init_31 (by decide) ?_
  refine lv_istore_n (lv' := [(1, .int 0), (0, .ref gr)]) hx hb dX3_init_32 rfl hl (by decide) rfl (fun ls hl => ?_)
  refine xloop (σ := Array Slot × Heap × List Loc) (fun i z => lv_has z.1 3 [(1, .int (nI i)), (0, .ref gr)] ∧ va_P (dC, dI) vwCl ([(gr, .inr (3, [.ref gc, .int 0, .int 0, .int 0])), (gc, .inl (cA 9, 8, .inr (.inr (.inr (.inr (fun i => some (ga i)))))))] ++ rws (cA 0) ga (gmx i 0)) z.2.1 ∧ va_D A ([(gr, .inr (3, [.ref gc, .int 0, .int 0, .int 0])), (gc, .inl (cA 9, 8, .inr (.inr (.inr (.inr (fun i => some (ga i)))))))] ++ rws (cA 0) ga (gmx i 0)) ∧ va_S A s.heap z.2.1 z.2.2) (fun z => W p l e _ s m _ below meth c z.2.1 z.2.2 _ _ _ (F0 m 33 z.1 [])) 8 ?_ ?_ (ls, _, _) ⟨hl, by rw [gmx_0]; exact hP, by rw [gmx_0]; exact hD, hS⟩
  · rintro i ⟨ls, H, locs⟩ hi ⟨hl, hP, hD, hS⟩ ih
    have hl : lv_has ls 3 [(1, .int (nI i)), (0, .ref gr)] := hl
    have hP : va_P (dC, dI) vwCl ([(gr, .inr (3, [.ref gc, .int 0, .int 0, .int 0])), (gc, .inl (cA 9, 8, .inr (.inr (.inr (.inr (fun i => some (ga i)))))))] ++ rws (cA 0) ga (gmx i 0)) H := hP
    have hD : va_D A ([(gr, .inr (3, [.ref gc, .int 0, .int 0, .int 0])), (gc, .inl (cA 9, 8, .inr (.inr (.inr (.inr (fun i => some (ga i)))))))] ++ rws (cA 0) ga (gmx i 0)) := hD
    have hS : va_S A s.heap H locs := hS
    show W p l e _ s m _ below meth c H locs _ _ _ (F0 m 33 ls [])
    refine lv_iload_n hx hb dX3_init_33 rfl (lv_at hl 0 rfl) ?_
    refine lv_bipush (v := 8) hx hb dX3_init_34 (by decide) ?_
    refine lv_icmp_ge (tgt := 73) hx hb dX3_init_36 (by decide) (fun c_1 => ?_) (fun c_1 => ?_)
    · exact absurd c_1 (nI_ge hi (by decide))
    · refine lv_iconst (v := 0) hx hb dX3_init_39 (by decide) ?_
      refine lv_istore_n (lv' := [(2, .int 0), (1, .int (nI i)), (0, .ref gr)]) hx hb dX3_init_40 rfl hl (by decide) rfl (fun ls hl => ?_)
      refine xloop (σ := Array Slot × Heap × List Loc) (fun j z => lv_has z.1 3 [(2, .int (nI j)), (1, .int (nI i)), (0, .ref gr)] ∧ va_P (dC, dI) vwCl ([(gr, .inr (3, [.ref gc, .int 0, .int 0, .int 0])), (gc, .inl (cA 9, 8, .inr (.inr (.inr (.inr (fun i => some (ga i)))))))] ++ rws (cA 0) ga (gmx i j)) z.2.1 ∧ va_D A ([(gr, .inr (3, [.ref gc, .int 0, .int 0, .int 0])), (gc, .inl (cA 9, 8, .inr (.inr (.inr (.inr (fun i => some (ga i)))))))] ++ rws (cA 0) ga (gmx i j)) ∧ va_S A s.heap z.2.1 z.2.2) (fun z => W p l e _ s m _ below meth c z.2.1 z.2.2 _ _ _ (F0 m 41 z.1 [])) 8 ?_ ?_ (ls, _, _) ⟨hl, hP, hD, hS⟩
      · rintro j ⟨ls, H, locs⟩ hj ⟨hl, hP, hD, hS⟩ jh
        have hl : lv_has ls 3 [(2, .int (nI j)), (1, .int (nI i)), (0, .ref gr)] := hl
        have hP : va_P (dC, dI) vwCl ([(gr, .inr (3, [.ref gc, .int 0, .int 0, .int 0])), (gc, .inl (cA 9, 8, .inr (.inr (.inr (.inr (fun i => some (ga i)))))))] ++ rws (cA 0) ga (gmx i j)) H := hP
        have hD : va_D A ([(gr, .inr (3, [.ref gc, .int 0, .int 0, .int 0])), (gc, .inl (cA 9, 8, .inr (.inr (.inr (.inr (fun i => some (ga i)))))))] ++ rws (cA 0) ga (gmx i j)) := hD
        have hS : va_S A s.heap H locs := hS
        show W p l e _ s m _ below meth c H locs _ _ _ (F0 m 41 ls [])
        refine lv_iload_n hx hb dX3_init_41 rfl (lv_at hl 0 rfl) ?_
        refine lv_bipush (v := 8) hx hb dX3_init_42 (by decide) ?_
        refine lv_icmp_ge (tgt := 67) hx hb dX3_init_44 (by decide) (fun c_2 => ?_) (fun c_2 => ?_)
        · exact absurd c_2 (nI_ge hj (by decide))
        · refine lv_aload_n hx hb dX3_init_47 rfl (lv_at hl 2 rfl) ?_
          refine va_get (D := (dC, dI)) (ci := 3) (v := .ref gc) (C := RX3) (T := TX3) (N := 4) hx hb (ly_3 h hb0) (fun _ z => z) hown hK hP 0 rfl rfl 0 (by decide) (k_76 h hb0) (fun _ z => z) rfl dX3_init_48 ?_
          refine lv_iload_n hx hb dX3_init_51 rfl (lv_at hl 1 rfl) ?_
          refine xaldA hx hb hK hP 1 9 rfl rfl (vp_in_nI hi (by decide)) dX3_init_52 ?_
          rw [nI_clamp (Nat.lt_trans hi (by decide))]
          show W _ _ _ _ _ _ _ _ _ _ _ _ _ _ _ (F0 m 53 ls [.ref (ga i)])
          refine lv_iload_n hx hb dX3_init_53 rfl (lv_at hl 0 rfl) ?_
          refine lv_bipush (v := 10) hx hb dX3_init_54 (by decide) ?_
          refine lv_iload_n hx hb dX3_init_56 rfl (lv_at hl 1 rfl) ?_
          refine lv_imul hx hb dX3_init_57 ?_
          refine lv_iload_n hx hb dX3_init_58 rfl (lv_at hl 0 rfl) ?_
          refine lv_iadd hx hb dX3_init_59 ?_
          refine va_iast hx hb hK hP hD hS (2 + i) 0 (rws_get rfl hi) rfl (vp_in_nI hj (by decide)) dX3_init_60 (fun H locs hP hD hS => ?_)
          rw [nI_clamp (Nat.lt_trans hj (by decide)), rws_set (X := [(gr, .inr (3, [.ref gc, .int 0, .int 0, .int 0])), (gc, .inl (cA 9, 8, .inr (.inr (.inr (.inr (fun i => some (ga i)))))))]) (n := 2) rfl hi, gmx_s hj] at hP hD
          have hP : va_P (dC, dI) vwCl ([(gr, .inr (3, [.ref gc, .int 0, .int 0, .int 0])), (gc, .inl (cA 9, 8, .inr (.inr (.inr (.inr (fun i => some (ga i)))))))] ++ rws (cA 0) ga (gmx i (j + 1))) H := hP
          have hD : va_D A ([(gr, .inr (3, [.ref gc, .int 0, .int 0, .int 0])), (gc, .inl (cA 9, 8, .inr (.inr (.inr (.inr (fun i => some (ga i)))))))] ++ rws (cA 0) ga (gmx i (j + 1))) := hD
          refine lv_iinc (lv' := [(2, .int (nI (j + 1))), (1, .int (nI i)), (0, .ref gr)]) hx hb dX3_init_61 hl (k := 0) rfl (nI_1 _) (by decide) rfl (fun ls hl => ?_)
          refine lv_goto (tgt := 41) hx hb dX3_init_64 (by decide) ?_
          exact jh (ls, _, _) ⟨hl, hP, hD, hS⟩
      · rintro ⟨ls, H, locs⟩ ⟨hl, hP, hD, hS⟩
        have hl : lv_has ls 3 [(2, .int (nI 8)), (1, .int (nI i)), (0, .ref gr)] := hl
        have hP : va_P (dC, dI) vwCl ([(gr, .inr (3, [.ref gc, .int 0, .int 0, .int 0])), (gc, .inl (cA 9, 8, .inr (.inr (.inr (.inr (fun i => some (ga i)))))))] ++ rws (cA 0) ga (gmx i 8)) H := hP
        have hD : va_D A ([(gr, .inr (3, [.ref gc, .int 0, .int 0, .int 0])), (gc, .inl (cA 9, 8, .inr (.inr (.inr (.inr (fun i => some (ga i)))))))] ++ rws (cA 0) ga (gmx i 8)) := hD
        have hS : va_S A s.heap H locs := hS
        show W p l e _ s m _ below meth c H locs _ _ _ (F0 m 41 ls [])
        refine lv_iload_n hx hb dX3_init_41 rfl (lv_at hl 0 rfl) ?_
        refine lv_bipush (v := 8) hx hb dX3_init_42 (by decide) ?_
        refine lv_icmp_ge (tgt := 67) hx hb dX3_init_44 (by decide) (fun c_3 => ?_) (fun c_3 => ?_)
        · refine lv_iinc (lv' := [(1, .int (nI (i + 1))), (2, .int (nI 8)), (0, .ref gr)]) hx hb dX3_init_67 hl (k := 1) rfl (nI_1 _) (by decide) rfl (fun ls hl => ?_)
          refine lv_goto (tgt := 33) hx hb dX3_init_70 (by decide) ?_
          have hl : lv_has ls 3 [(1, .int (nI (i + 1))), (0, .ref gr)] := lv_sub hl [0, 2] rfl
          rw [gmx_e] at hP hD
          exact ih (ls, _, _) ⟨hl, hP, hD, hS⟩
        · exact absurd (by decide) c_3
  · rintro ⟨ls, H, locs⟩ ⟨hl, hP, hD, hS⟩
    have hl : lv_has ls 3 [(1, .int (nI 8)), (0, .ref gr)] := hl
    have hP : va_P (dC, dI) vwCl ([(gr, .inr (3, [.ref gc, .int 0, .int 0, .int 0])), (gc, .inl (cA 9, 8, .inr (.inr (.inr (.inr (fun i => some (ga i)))))))] ++ rws (cA 0) ga (gmx 8 0)) H := hP
    have hD : va_D A ([(gr, .inr (3, [.ref gc, .int 0, .int 0, .int 0])), (gc, .inl (cA 9, 8, .inr (.inr (.inr (.inr (fun i => some (ga i)))))))] ++ rws (cA 0) ga (gmx 8 0)) := hD
    have hS : va_S A s.heap H locs := hS
    show W p l e _ s m _ below meth c H locs _ _ _ (F0 m 33 ls [])
    refine lv_iload_n hx hb dX3_init_33 rfl (lv_at hl 0 rfl) ?_
    refine lv_bipush (v := 8) hx hb dX3_init_34 (by decide) ?_
    refine lv_icmp_ge (tgt := 73) hx hb dX3_init_36 (by decide) (fun c_4 => ?_) (fun c_4 => ?_)
    · exact W.vret hx hb hr (fun t ht _ => ⟨none, _, rfl, ⟨gc, ga, rfl, rfl⟩, by rw [ht]; exact hP, hD, hS.F ht⟩) (fun q z => hS.2.2 q z) dX3_init_73
    · exact absurd (by decide) c_4
set_option maxHeartbeats 4000000 in
set_option maxRecDepth 100000 in
theorem c_brInit {l : Launch} {s0 : State} {a0 : Array Value} {dC : Nat → ClassId} {dI : Nat → Nat → Nat} {cA : Nat → ClassId} (h : xC l s0 a0 dC dI cA) (br : Nat) (sz : Nat)  : Met l yX1_init [Cond.code yX1_init cX1_init 1 none] ({ frames := 1, cells := 1, slots := 19, locals := 40 } : Room) (xPM s0 (dC, dI) [.ref br] [] [(br, .inr (1, [.null, .int 0, .int 0, .int 0]))] sz) (xQM (dC, dI) (va_A [(br, .inr (1, [.null, .int 0, .int 0, .int 0]))] sz) (fun r w1 => ∃ pl : Nat, r = none ∧ w1 = [(br, .inr (1, [.ref pl, .int 0, .int 0, .int 0])), (pl, .inl (cA 8, 19, .inr (.inr (.inr (.inr (fun _ => none))))))])) 1 19 (va_A [(br, .inr (1, [.null, .int 0, .int 0, .int 0]))] sz) := by
  refine Met.ofW (cc := cX1_init) (maxL := 1) (ret := none) (by decide) rfl ?_
  intro p e s m args below meth c s₁ B hml hv
  obtain ⟨rfl, rfl, hb0, hPr, hP, hD0⟩ := hv
  have hx := B.exec
  have hb := B.bytes
  have hr := B.returns
  have hown : s.vm.findClass RX1 = some m.cls := findClass_of_methodNamed B.named
  have hlocks := B.notSynchronized
  have hK := h.K hb0
  have hin : meth.name = "<init>" := (name_of_methodNamed B.named B.method).1
  have hS : va_S (va_A [(br, .inr (1, [.null, .int 0, .int 0, .int 0]))] s.heap.size) s.heap s.heap [] := va_S.rf
  obtain ⟨A, hAe, hD, hA, hz, hRo, hwk, hnR⟩ := xM_start hb0 hPr hP hD0
  rw [hAe] at hS ⊢
  have hl := lv_entry ([.ref br]) (n := 1) (Nat.le_of_ble_eq_true rfl)
  rw [lg_entry_eq]
  generalize (lg_sl ([.ref br]) ++ List.replicate (1 - (lg_sl ([.ref br])).length) Slot.unset).toArray = ls at hl ⊢
  have hl : lv_has ls 1 [(0, .ref br)] := hl
  refine lv_aload_n hx hb dX1_init_0 rfl (lv_at hl 0 rfl) ?_
  refine W.objInit hx hb hown (k_94 h hb0) (k_24 h hb0) (k_25 h hb0) rfl (hl.1.trans hml.symm) rfl dX1_init_1 (Nat.le_of_ble_eq_true rfl) (Nat.le_of_ble_eq_true rfl) ?_
  show W _ _ _ _ _ _ _ _ _ _ _ _ _ _ _ (F0 m 4 ls [])
  refine lv_aload_n hx hb dX1_init_4 rfl (lv_at hl 0 rfl) ?_
  refine lv_bipush (v := 19) hx hb dX1_init_5 (by decide) ?_
  refine va_newq (own := RX1) (C := RX0) hx hb hown (k_95 h hb0) (va_AO.moved hb0.1.alike (h.2.1 _ (List.mem_of_getElem? (i := 101) rfl))) hK hP hD hS hA (N' := 19) (by decide) rfl (by decide) (Nat.le_of_ble_eq_true rfl) (Nat.le_of_ble_eq_true rfl) dX1_init_7 (fun pl cN H hKn hP hD hS => ?_)
  obtain rfl : cN = cA 8 := xRA_eq (hKn.2 10 _ rfl).2 (hK.2 8 _ rfl).2
  clear hKn
  have hP : va_P (dC, dI) vwCl [(br, .inr (1, [.null, .int 0, .int 0, .int 0])), (pl, .inl (cA 8, 19, .inr (.inr (.inr (.inr (fun _ => none))))))] H := hP
  have hD : va_D A [(br, .inr (1, [.null, .int 0, .int 0, .int 0])), (pl, .inl (cA 8, 19, .inr (.inr (.inr (.inr (fun _ => none))))))] := hD
  refine va_putF (D := (dC, dI)) (ci := 1) (v := .ref pl) (ty := .array (.object "FaultBench$Box")) (C := RX1) (T := TX1) (N := 4) hx hb (ly_1 h hb0) (fun _ z => z) tyX1 tyX1_ok nmX1 hown hK hP hD hS 0 rfl rfl 0 (by decide) (k_97 h hb0) (fun _ z => z) rfl hin rfl (by decide +kernel) rfl rfl (Nat.le_of_ble_eq_true rfl) dX1_init_10 (fun H locs hP hD hS => ?_)
  have hP : va_P (dC, dI) vwCl [(br, .inr (1, [.ref pl, .int 0, .int 0, .int 0])), (pl, .inl (cA 8, 19, .inr (.inr (.inr (.inr (fun _ => none))))))] H := hP
  have hD : va_D A [(br, .inr (1, [.ref pl, .int 0, .int 0, .int 0])), (pl, .inl (cA 8, 19, .inr (.inr (.inr (.inr (fun _ => none))))))] := hD
  refine lv_aload_n hx hb dX1_init_13 rfl (lv_at hl 0 rfl) ?_
  refine lv_iconst (v := 0) hx hb dX1_init_14 (by decide) ?_
  refine va_put (D := (dC, dI)) (ci := 1) (v := .int 0) (ty := .boolean) (C := RX1) (T := TX1) (N := 4) hx hb (ly_1 h hb0) (fun _ z => z) tyX1 tyX1_ok nmX1 hown hK hP hD hS 0 rfl rfl 1 (by decide) (k_98 h hb0) (fun _ z => z) rfl (by decide +kernel) rfl rfl (Nat.le_of_ble_eq_true rfl) dX1_init_15 (fun H locs hP hD hS => ?_)
  have hP : va_P (dC, dI) vwCl [(br, .inr (1, [.ref pl, .int 0, .int 0, .int 0])), (pl, .inl (cA 8, 19, .inr (.inr (.inr (.inr (fun _ => none))))))] H := hP
  have hD : va_D A [(br, .inr (1, [.ref pl, .int 0, .int 0, .int 0])), (pl, .inl (cA 8, 19, .inr (.inr (.inr (.inr (fun _ => none))))))] := hD
  refine lv_aload_n hx hb dX1_init_18 rfl (lv_at hl 0 rfl) ?_
  refine lv_iconst (v := 0) hx hb dX1_init_19 (by decide) ?_
  refine va_put (D := (dC, dI)) (ci := 1) (v := .int 0) (ty := .boolean) (C := RX1) (T := TX1) (N := 4) hx hb (ly_1 h hb0) (fun _ z => z) tyX1 tyX1_ok nmX1 hown hK hP hD hS 0 rfl rfl 2 (by decide) (k_99 h hb0) (fun _ z => z) rfl (by decide +kernel) rfl rfl (Nat.le_of_ble_eq_true rfl) dX1_init_20 (fun H locs hP hD hS => ?_)
  have hP : va_P (dC, dI) vwCl [(br, .inr (1, [.ref pl, .int 0, .int 0, .int 0])), (pl, .inl (cA 8, 19, .inr (.inr (.inr (.inr (fun _ => none))))))] H := hP
  have hD : va_D A [(br, .inr (1, [.ref pl, .int 0, .int 0, .int 0])), (pl, .inl (cA 8, 19, .inr (.inr (.inr (.inr (fun _ => none))))))] := hD
  refine lv_aload_n hx hb dX1_init_23 rfl (lv_at hl 0 rfl) ?_
  refine lv_iconst (v := 0) hx hb dX1_init_24 (by decide) ?_
  refine va_put (D := (dC, dI)) (ci := 1) (v := .int 0) (ty := .int) (C := RX1) (T := TX1) (N := 4) hx hb (ly_1 h hb0) (fun _ z => z) tyX1 tyX1_ok nmX1 hown hK hP hD hS 0 rfl rfl 3 (by decide) (k_100 h hb0) (fun _ z => z) rfl (by decide +kernel) rfl rfl (Nat.le_of_ble_eq_true rfl) dX1_init_25 (fun H locs hP hD hS => ?_)
  have hP : va_P (dC, dI) vwCl [(br, .inr (1, [.ref pl, .int 0, .int 0, .int 0])), (pl, .inl (cA 8, 19, .inr (.inr (.inr (.inr (fun _ => none))))))] H := hP
  have hD : va_D A [(br, .inr (1, [.ref pl, .int 0, .int 0, .int 0])), (pl, .inl (cA 8, 19, .inr (.inr (.inr (.inr (fun _ => none))))))] := hD
  exact W.vret hx hb hr (fun t ht _ => ⟨none, _, rfl, ⟨pl, rfl, rfl⟩, by rw [ht]; exact hP, hD, hS.F ht⟩) (fun q z => hS.2.2 q z) dX1_init_28
set_option maxHeartbeats 4000000 in
set_option maxRecDepth 100000 in
theorem c_fbInit {l : Launch} {s0 : State} {a0 : Array Value} {dC : Nat → ClassId} {dI : Nat → Nat → Nat} {cA : Nat → ClassId} (h : xC l s0 a0 dC dI cA) (b : Nat) (sz : Nat)  : Met l yX5_init [Cond.code yX5_init cX5_init 1 none] ({ frames := 2, cells := 22, slots := 428, locals := 100 } : Room) (xPM s0 (dC, dI) [.ref b] [] [(b, .inr (5, [.null, .null, .null, .int 0, .int 0]))] sz) (xQM (dC, dI) (va_A [(b, .inr (5, [.null, .null, .null, .int 0, .int 0]))] sz) (fun r w1 => ∃ (ro b0 b1 b2 b3 b4 b5 b6 b7 b8 gr gc br pl : Nat) (ga : Nat → Nat), r = none ∧ w1 = [(b, .inr (5, [.ref ro, .ref gr, .ref br, .int 0, .int 0])), (ro, .inr (4, [.ref b0, .ref b1, .ref b2, .ref b3, .ref b4, .ref b5, .ref b6, .ref b7, .ref b8])), (b0, .inl (cA 0, 8, .inl (lz 8))), (b1, .inl (cA 0, 39, .inl (r0 (fun _ _ => 0)))), (b2, .inl (cA 1, 39, .inr (.inl (r1 (fun _ _ => 0))))), (b3, .inl (cA 2, 39, .inl (r2 (fun _ _ => 0)))), (b4, .inl (cA 3, 39, .inl (r3 (fun _ _ => 0)))), (b5, .inl (cA 4, 39, .inl (r4 (fun _ _ => 0)))), (b6, .inl (cA 5, 39, .inl (r5 (fun _ _ => 0)))), (b7, .inl (cA 6, 39, .inr (.inr (.inl (r6 (fun _ _ => 0)))))), (b8, .inl (cA 7, 39, .inr (.inr (.inr (.inl (r7 (fun _ _ => 0))))))), (gr, .inr (3, [.ref gc, .int 0, .int 0, .int 0])), (gc, .inl (cA 9, 8, .inr (.inr (.inr (.inr (fun i => some (ga i))))))), (br, .inr (1, [.ref pl, .int 0, .int 0, .int 0])), (pl, .inl (cA 8, 19, .inr (.inr (.inr (.inr (fun _ => none))))))] ++ rws (cA 0) ga (gmx 8 0))) 22 428 (va_A [(b, .inr (5, [.null, .null, .null, .int 0, .int 0]))] sz) := by
  refine Met.ofW (cc := cX5_init) (maxL := 1) (ret := none) (by decide) rfl ?_
  intro p e s m args below meth c s₁ B hml hv
  obtain ⟨rfl, rfl, hb0, hPr, hP, hD0⟩ := hv
  have hx := B.exec
  have hb := B.bytes
  have hr := B.returns
  have hown : s.vm.findClass RX5 = some m.cls := findClass_of_methodNamed B.named
  have hlocks := B.notSynchronized
  have hK := h.K hb0
  have hin : meth.name = "<init>" := (name_of_methodNamed B.named B.method).1
  have hS : va_S (va_A [(b, .inr (5, [.null, .null, .null, .int 0, .int 0]))] s.heap.size) s.heap s.heap [] := va_S.rf
  obtain ⟨A, hAe, hD, hA, hz, hRo, hwk, hnR⟩ := xM_start hb0 hPr hP hD0
  rw [hAe] at hS ⊢
  have hl := lv_entry ([.ref b]) (n := 1) (Nat.le_of_ble_eq_true rfl)
  rw [lg_entry_eq]
  generalize (lg_sl ([.ref b]) ++ List.replicate (1 - (lg_sl ([.ref b])).length) Slot.unset).toArray = ls at hl ⊢
  have hl : lv_has ls 1 [(0, .ref b)] := hl
  refine lv_aload_n hx hb dX5_init_0 rfl (lv_at hl 0 rfl) ?_
  refine W.objInit hx hb hown (k_23 h hb0) (k_24 h hb0) (k_25 h hb0) rfl (hl.1.trans hml.symm) rfl dX5_init_1 (Nat.le_of_ble_eq_true rfl) (Nat.le_of_ble_eq_true rfl) ?_
  show W _ _ _ _ _ _ _ _ _ _ _ _ _ _ _ (F0 m 4 ls [])
  refine lv_aload_n hx hb dX5_init_4 rfl (lv_at hl 0 rfl) ?_
  refine va_new (C := RX4) (T := TX4) (N := 9) (ci := 4) (fs := [.null, .null, .null, .null, .null, .null, .null, .null, .null]) hx hb (ly_4 h hb0) (fun _ z => z) tyX4 tyX4_ok hown (k_26 h hb0) (k_27 h hb0) (k_2 h hb0) hK hP hD hS hA rfl dfX4 (Nat.le_of_ble_eq_true rfl) (Nat.le_of_ble_eq_true rfl) dX5_init_5 (fun ro H hP hD hS => ?_)
  have hP : va_P (dC, dI) vwCl [(b, .inr (5, [.null, .null, .null, .int 0, .int 0])), (ro, .inr (4, [.null, .null, .null, .null, .null, .null, .null, .null, .null]))] H := hP
  have hD : va_D A [(b, .inr (5, [.null, .null, .null, .int 0, .int 0])), (ro, .inr (4, [.null, .null, .null, .null, .null, .null, .null, .null, .null]))] := hD
  refine lv_dup hx hb dX5_init_8 rfl ?_
  refine xm_of (wc := [(ro, .inr (4, [.null, .null, .null, .null, .null, .null, .null, .null, .null]))]) (wo := [(b, .inr (5, [.null, .null, .null, .int 0, .int 0]))]) (va_runI (As := []) (rest := [.ref ro, .ref b]) ⟨hx, hb, hml, hown, xTs⟩ (c_rowsInit h ro _) ⟨xB (n := 0) (k_30 h hb0) (k_2 h hb0) (k_28 h hb0) (by decide) rfl rfl rfl (by decide) (by decide), rfl, (k_29 h hb0)⟩ (xpMS (As := [.ref ro]) (wr := []) (wc := [(ro, .inr (4, [.null, .null, .null, .null, .null, .null, .null, .null, .null]))]) hb0 hS hz (va_P.sub hP [] rfl) (va_P.sub hP [1] rfl) (va_D.sub (hwk _ hD) [1] rfl rfl)) rfl rfl hl.1 rfl (lv_room (Nat.le_of_ble_eq_true rfl)) dX5_init_9 ⟨(Nat.le_of_ble_eq_true rfl), (Nat.le_of_ble_eq_true rfl)⟩) hP hD hS hA [1] [0] rfl rfl rfl (by decide) (fun r w1 H locs hΦ hP hD hS => ?_)
  obtain ⟨b0, b1, b2, b3, b4, b5, b6, b7, b8, rfl, rfl⟩ := hΦ
  have hP : va_P (dC, dI) vwCl [(b, .inr (5, [.null, .null, .null, .int 0, .int 0])), (ro, .inr (4, [.ref b0, .ref b1, .ref b2, .ref b3, .ref b4, .ref b5, .ref b6, .ref b7, .ref b8])), (b0, .inl (cA 0, 8, .inl (lz 8))), (b1, .inl (cA 0, 39, .inl (r0 (fun _ _ => 0)))), (b2, .inl (cA 1, 39, .inr (.inl (r1 (fun _ _ => 0))))), (b3, .inl (cA 2, 39, .inl (r2 (fun _ _ => 0)))), (b4, .inl (cA 3, 39, .inl (r3 (fun _ _ => 0)))), (b5, .inl (cA 4, 39, .inl (r4 (fun _ _ => 0)))), (b6, .inl (cA 5, 39, .inl (r5 (fun _ _ => 0)))), (b7, .inl (cA 6, 39, .inr (.inr (.inl (r6 (fun _ _ => 0)))))), (b8, .inl (cA 7, 39, .inr (.inr (.inr (.inl (r7 (fun _ _ => 0)))))))] H := hP
  have hD : va_D A [(b, .inr (5, [.null, .null, .null, .int 0, .int 0])), (ro, .inr (4, [.ref b0, .ref b1, .ref b2, .ref b3, .ref b4, .ref b5, .ref b6, .ref b7, .ref b8])), (b0, .inl (cA 0, 8, .inl (lz 8))), (b1, .inl (cA 0, 39, .inl (r0 (fun _ _ => 0)))), (b2, .inl (cA 1, 39, .inr (.inl (r1 (fun _ _ => 0))))), (b3, .inl (cA 2, 39, .inl (r2 (fun _ _ => 0)))), (b4, .inl (cA 3, 39, .inl (r3 (fun _ _ => 0)))), (b5, .inl (cA 4, 39, .inl (r4 (fun _ _ => 0)))), (b6, .inl (cA 5, 39, .inl (r5 (fun _ _ => 0)))), (b7, .inl (cA 6, 39, .inr (.inr (.inl (r6 (fun _ _ => 0)))))), (b8, .inl (cA 7, 39, .inr (.inr (.inr (.inl (r7 (fun _ _ => 0)))))))] := hD
  refine va_putF (D := (dC, dI)) (ci := 5) (v := .ref ro) (ty := .object "FaultBench$Rows") (C := RX5) (T := TX5) (N := 5) hx hb (ly_5 h hb0) (fun _ z => z) tyX5 tyX5_ok nmX5 hown hK hP hD hS 0 rfl rfl 0 (by decide) (k_110 h hb0) (fun _ z => z) rfl hin rfl (by decide +kernel) rfl rfl (Nat.le_of_ble_eq_true rfl) dX5_init_12 (fun H locs hP hD hS => ?_)
  have hP : va_P (dC, dI) vwCl [(b, .inr (5, [.ref ro, .null, .null, .int 0, .int 0])), (ro, .inr (4, [.ref b0, .ref b1, .ref b2, .ref b3, .ref b4, .ref b5, .ref b6, .ref b7, .ref b8])), (b0, .inl (cA 0, 8, .inl (lz 8))), (b1, .inl (cA 0, 39, .inl (r0 (fun _ _ => 0)))), (b2, .inl (cA 1, 39, .inr (.inl (r1 (fun _ _ => 0))))), (b3, .inl (cA 2, 39, .inl (r2 (fun _ _ => 0)))), (b4, .inl (cA 3, 39, .inl (r3 (fun _ _ => 0)))), (b5, .inl (cA 4, 39, .inl (r4 (fun _ _ => 0)))), (b6, .inl (cA 5, 39, .inl (r5 (fun _ _ => 0)))), (b7, .inl (cA 6, 39, .inr (.inr (.inl (r6 (fun _ _ => 0)))))), (b8, .inl (cA 7, 39, .inr (.inr (.inr (.inl (r7 (fun _ _ => 0)))))))] H := hP
  have hD : va_D A [(b, .inr (5, [.ref ro, .null, .null, .int 0, .int 0])), (ro, .inr (4, [.ref b0, .ref b1, .ref b2, .ref b3, .ref b4, .ref b5, .ref b6, .ref b7, .ref b8])), (b0, .inl (cA 0, 8, .inl (lz 8))), (b1, .inl (cA 0, 39, .inl (r0 (fun _ _ => 0)))), (b2, .inl (cA 1, 39, .inr (.inl (r1 (fun _ _ => 0))))), (b3, .inl (cA 2, 39, .inl (r2 (fun _ _ => 0)))), (b4, .inl (cA 3, 39, .inl (r3 (fun _ _ => 0)))), (b5, .inl (cA 4, 39, .inl (r4 (fun _ _ => 0)))), (b6, .inl (cA 5, 39, .inl (r5 (fun _ _ => 0)))), (b7, .inl (cA 6, 39, .inr (.inr (.inl (r6 (fun _ _ => 0)))))), (b8, .inl (cA 7, 39, .inr (.inr (.inr (.inl (r7 (fun _ _ => 0)))))))] := hD
  refine lv_aload_n hx hb dX5_init_15 rfl (lv_at hl 0 rfl) ?_
  refine va_new (C := RX3) (T := TX3) (N := 4) (ci := 3) (fs := [.null, .int 0, .int 0, .int 0]) hx hb (ly_3 h hb0) (fun _ z => z) tyX3 tyX3_ok hown (k_68 h hb0) (k_69 h hb0) (k_3 h hb0) hK hP hD hS hA rfl dfX3 (Nat.le_of_ble_eq_true rfl) (Nat.le_of_ble_eq_true rfl) dX5_init_16 (fun gr H hP hD hS => ?_)
  have hP : va_P (dC, dI) vwCl [(b, .inr (5, [.ref ro, .null, .null, .int 0, .int 0])), (ro, .inr (4, [.ref b0, .ref b1, .ref b2, .ref b3, .ref b4, .ref b5, .ref b6, .ref b7, .ref b8])), (b0, .inl (cA 0, 8, .inl (lz 8))), (b1, .inl (cA 0, 39, .inl (r0 (fun _ _ => 0)))), (b2, .inl (cA 1, 39, .inr (.inl (r1 (fun _ _ => 0))))), (b3, .inl (cA 2, 39, .inl (r2 (fun _ _ => 0)))), (b4, .inl (cA 3, 39, .inl (r3 (fun _ _ => 0)))), (b5, .inl (cA 4, 39, .inl (r4 (fun _ _ => 0)))), (b6, .inl (cA 5, 39, .inl (r5 (fun _ _ => 0)))), (b7, .inl (cA 6, 39, .inr (.inr (.inl (r6 (fun _ _ => 0)))))), (b8, .inl (cA 7, 39, .inr (.inr (.inr (.inl (r7 (fun _ _ => 0))))))), (gr, .inr (3, [.null, .int 0, .int 0, .int 0]))] H := hP
  have hD : va_D A [(b, .inr (5, [.ref ro, .null, .null, .int 0, .int 0])), (ro, .inr (4, [.ref b0, .ref b1, .ref b2, .ref b3, .ref b4, .ref b5, .ref b6, .ref b7, .ref b8])), (b0, .inl (cA 0, 8, .inl (lz 8))), (b1, .inl (cA 0, 39, .inl (r0 (fun _ _ => 0)))), (b2, .inl (cA 1, 39, .inr (.inl (r1 (fun _ _ => 0))))), (b3, .inl (cA 2, 39, .inl (r2 (fun _ _ => 0)))), (b4, .inl (cA 3, 39, .inl (r3 (fun _ _ => 0)))), (b5, .inl (cA 4, 39, .inl (r4 (fun _ _ => 0)))), (b6, .inl (cA 5, 39, .inl (r5 (fun _ _ => 0)))), (b7, .inl (cA 6, 39, .inr (.inr (.inl (r6 (fun _ _ => 0)))))), (b8, .inl (cA 7, 39, .inr (.inr (.inr (.inl (r7 (fun _ _ => 0))))))), (gr, .inr (3, [.null, .int 0, .int 0, .int 0]))] := hD
  refine lv_dup hx hb dX5_init_19 rfl ?_
  refine xm_of (wc := [(gr, .inr (3, [.null, .int 0, .int 0, .int 0]))]) (wo := [(b, .inr (5, [.ref ro, .null, .null, .int 0, .int 0])), (ro, .inr (4, [.ref b0, .ref b1, .ref b2, .ref b3, .ref b4, .ref b5, .ref b6, .ref b7, .ref b8])), (b0, .inl (cA 0, 8, .inl (lz 8))), (b1, .inl (cA 0, 39, .inl (r0 (fun _ _ => 0)))), (b2, .inl (cA 1, 39, .inr (.inl (r1 (fun _ _ => 0))))), (b3, .inl (cA 2, 39, .inl (r2 (fun _ _ => 0)))), (b4, .inl (cA 3, 39, .inl (r3 (fun _ _ => 0)))), (b5, .inl (cA 4, 39, .inl (r4 (fun _ _ => 0)))), (b6, .inl (cA 5, 39, .inl (r5 (fun _ _ => 0)))), (b7, .inl (cA 6, 39, .inr (.inr (.inl (r6 (fun _ _ => 0)))))), (b8, .inl (cA 7, 39, .inr (.inr (.inr (.inl (r7 (fun _ _ => 0)))))))]) (va_runI (As := []) (rest := [.ref gr, .ref b]) ⟨hx, hb, hml, hown, xTs⟩ (c_gridInit h gr _) ⟨xB (n := 0) (k_72 h hb0) (k_3 h hb0) (k_70 h hb0) (by decide) rfl rfl rfl (by decide) (by decide), rfl, (k_71 h hb0)⟩ (xpMS (As := [.ref gr]) (wr := []) (wc := [(gr, .inr (3, [.null, .int 0, .int 0, .int 0]))]) hb0 hS hz (va_P.sub hP [] rfl) (va_P.sub hP [11] rfl) (va_D.sub (hwk _ hD) [11] rfl rfl)) rfl rfl hl.1 rfl (lv_room (Nat.le_of_ble_eq_true rfl)) dX5_init_20 ⟨(Nat.le_of_ble_eq_true rfl), (Nat.le_of_ble_eq_true rfl)⟩) hP hD hS hA [11] [0, 1, 2, 3, 4, 5, 6, 7, 8, 9, 10] rfl rfl rfl (by decide) (fun r w1 H locs hΦ hP hD hS => ?_)
  obtain ⟨gc, ga, rfl, rfl⟩ := hΦ
  have hP : va_P (dC, dI) vwCl ([(b, .inr (5, [.ref ro, .null, .null, .int 0, .int 0])), (ro, .inr (4, [.ref b0, .ref b1, .ref b2, .ref b3, .ref b4, .ref b5, .ref b6, .ref b7, .ref b8])), (b0, .inl (cA 0, 8, .inl (lz 8))), (b1, .inl (cA 0, 39, .inl (r0 (fun _ _ => 0)))), (b2, .inl (cA 1, 39, .inr (.inl (r1 (fun _ _ => 0))))), (b3, .inl (cA 2, 39, .inl (r2 (fun _ _ => 0)))), (b4, .inl (cA 3, 39, .inl (r3 (fun _ _ => 0)))), (b5, .inl (cA 4, 39, .inl (r4 (fun _ _ => 0)))), (b6, .inl (cA 5, 39, .inl (r5 (fun _ _ => 0)))), (b7, .inl (cA 6, 39, .inr (.inr (.inl (r6 (fun _ _ => 0)))))), (b8, .inl (cA 7, 39, .inr (.inr (.inr (.inl (r7 (fun _ _ => 0))))))), (gr, .inr (3, [.ref gc, .int 0, .int 0, .int 0])), (gc, .inl (cA 9, 8, .inr (.inr (.inr (.inr (fun i => some (ga i)))))))] ++ rws (cA 0) ga (gmx 8 0)) H := hP
  have hD : va_D A ([(b, .inr (5, [.ref ro, .null, .null, .int 0, .int 0])), (ro, .inr (4, [.ref b0, .ref b1, .ref b2, .ref b3, .ref b4, .ref b5, .ref b6, .ref b7, .ref b8])), (b0, .inl (cA 0, 8, .inl (lz 8))), (b1, .inl (cA 0, 39, .inl (r0 (fun _ _ => 0)))), (b2, .inl (cA 1, 39, .inr (.inl (r1 (fun _ _ => 0))))), (b3, .inl (cA 2, 39, .inl (r2 (fun _ _ => 0)))), (b4, .inl (cA 3, 39, .inl (r3 (fun _ _ => 0)))), (b5, .inl (cA 4, 39, .inl (r4 (fun _ _ => 0)))), (b6, .inl (cA 5, 39, .inl (r5 (fun _ _ => 0)))), (b7, .inl (cA 6, 39, .inr (.inr (.inl (r6 (fun _ _ => 0)))))), (b8, .inl (cA 7, 39, .inr (.inr (.inr (.inl (r7 (fun _ _ => 0))))))), (gr, .inr (3, [.ref gc, .int 0, .int 0, .int 0])), (gc, .inl (cA 9, 8, .inr (.inr (.inr (.inr (fun i => some (ga i)))))))] ++ rws (cA 0) ga (gmx 8 0)) := hD
  refine va_putF (D := (dC, dI)) (ci := 5) (v := .ref gr) (ty := .object "FaultBench$Grid") (C := RX5) (T := TX5) (N := 5) hx hb (ly_5 h hb0) (fun _ z => z) tyX5 tyX5_ok nmX5 hown hK hP hD hS 0 rfl rfl 1 (by decide) (k_111 h hb0) (fun _ z => z) rfl hin rfl (by decide +kernel) rfl rfl (Nat.le_of_ble_eq_true rfl) dX5_init_23 (fun H locs hP hD hS => ?_)
  have hP : va_P (dC, dI) vwCl ([(b, .inr (5, [.ref ro, .ref gr, .null, .int 0, .int 0])), (ro, .inr (4, [.ref b0, .ref b1, .ref b2, .ref b3, .ref b4, .ref b5, .ref b6, .ref b7, .ref b8])), (b0, .inl (cA 0, 8, .inl (lz 8))), (b1, .inl (cA 0, 39, .inl (r0 (fun _ _ => 0)))), (b2, .inl (cA 1, 39, .inr (.inl (r1 (fun _ _ => 0))))), (b3, .inl (cA 2, 39, .inl (r2 (fun _ _ => 0)))), (b4, .inl (cA 3, 39, .inl (r3 (fun _ _ => 0)))), (b5, .inl (cA 4, 39, .inl (r4 (fun _ _ => 0)))), (b6, .inl (cA 5, 39, .inl (r5 (fun _ _ => 0)))), (b7, .inl (cA 6, 39, .inr (.inr (.inl (r6 (fun _ _ => 0)))))), (b8, .inl (cA 7, 39, .inr (.inr (.inr (.inl (r7 (fun _ _ => 0))))))), (gr, .inr (3, [.ref gc, .int 0, .int 0, .int 0])), (gc, .inl (cA 9, 8, .inr (.inr (.inr (.inr (fun i => some (ga i)))))))] ++ rws (cA 0) ga (gmx 8 0)) H := hP
  have hD : va_D A ([(b, .inr (5, [.ref ro, .ref gr, .null, .int 0, .int 0])), (ro, .inr (4, [.ref b0, .ref b1, .ref b2, .ref b3, .ref b4, .ref b5, .ref b6, .ref b7, .ref b8])), (b0, .inl (cA 0, 8, .inl (lz 8))), (b1, .inl (cA 0, 39, .inl (r0 (fun _ _ => 0)))), (b2, .inl (cA 1, 39, .inr (.inl (r1 (fun _ _ => 0))))), (b3, .inl (cA 2, 39, .inl (r2 (fun _ _ => 0)))), (b4, .inl (cA 3, 39, .inl (r3 (fun _ _ => 0)))), (b5, .inl (cA 4, 39, .inl (r4 (fun _ _ => 0)))), (b6, .inl (cA 5, 39, .inl (r5 (fun _ _ => 0)))), (b7, .inl (cA 6, 39, .inr (.inr (.inl (r6 (fun _ _ => 0)))))), (b8, .inl (cA 7, 39, .inr (.inr (.inr (.inl (r7 (fun _ _ => 0))))))), (gr, .inr (3, [.ref gc, .int 0, .int 0, .int 0])), (gc, .inl (cA 9, 8, .inr (.inr (.inr (.inr (fun i => some (ga i)))))))] ++ rws (cA 0) ga (gmx 8 0)) := hD
  refine lv_aload_n hx hb dX5_init_26 rfl (lv_at hl 0 rfl) ?_
  refine va_new (C := RX1) (T := TX1) (N := 4) (ci := 1) (fs := [.null, .int 0, .int 0, .int 0]) hx hb (ly_1 h hb0) (fun _ z => z) tyX1 tyX1_ok hown (k_89 h hb0) (k_90 h hb0) (k_4 h hb0) hK hP hD hS hA rfl dfX1 (Nat.le_of_ble_eq_true rfl) (Nat.le_of_ble_eq_true rfl) dX5_init_27 (fun br H hP hD hS => ?_)
  have hP := va_P.swap hP
  have hD := va_D.swap hD
  have hP : va_P (dC, dI) vwCl ([(b, .inr (5, [.ref ro, .ref gr, .null, .int 0, .int 0])), (ro, .inr (4, [.ref b0, .ref b1, .ref b2, .ref b3, .ref b4, .ref b5, .ref b6, .ref b7, .ref b8])), (b0, .inl (cA 0, 8, .inl (lz 8))), (b1, .inl (cA 0, 39, .inl (r0 (fun _ _ => 0)))), (b2, .inl (cA 1, 39, .inr (.inl (r1 (fun _ _ => 0))))), (b3, .inl (cA 2, 39, .inl (r2 (fun _ _ => 0)))), (b4, .inl (cA 3, 39, .inl (r3 (fun _ _ => 0)))), (b5, .inl (cA 4, 39, .inl (r4 (fun _ _ => 0)))), (b6, .inl (cA 5, 39, .inl (r5 (fun _ _ => 0)))), (b7, .inl (cA 6, 39, .inr (.inr (.inl (r6 (fun _ _ => 0)))))), (b8, .inl (cA 7, 39, .inr (.inr (.inr (.inl (r7 (fun _ _ => 0))))))), (gr, .inr (3, [.ref gc, .int 0, .int 0, .int 0])), (gc, .inl (cA 9, 8, .inr (.inr (.inr (.inr (fun i => some (ga i))))))), (br, .inr (1, [.null, .int 0, .int 0, .int 0]))] ++ rws (cA 0) ga (gmx 8 0)) H := hP
  have hD : va_D A ([(b, .inr (5, [.ref ro, .ref gr, .null, .int 0, .int 0])), (ro, .inr (4, [.ref b0, .ref b1, .ref b2, .ref b3, .ref b4, .ref b5, .ref b6, .ref b7, .ref b8])), (b0, .inl (cA 0, 8, .inl (lz 8))), (b1, .inl (cA 0, 39, .inl (r0 (fun _ _ => 0)))), (b2, .inl (cA 1, 39, .inr (.inl (r1 (fun _ _ => 0))))), (b3, .inl (cA 2, 39, .inl (r2 (fun _ _ => 0)))), (b4, .inl (cA 3, 39, .inl (r3 (fun _ _ => 0)))), (b5, .inl (cA 4, 39, .inl (r4 (fun _ _ => 0)))), (b6, .inl (cA 5, 39, .inl (r5 (fun _ _ => 0)))), (b7, .inl (cA 6, 39, .inr (.inr (.inl (r6 (fun _ _ => 0)))))), (b8, .inl (cA 7, 39, .inr (.inr (.inr (.inl (r7 (fun _ _ => 0))))))), (gr, .inr (3, [.ref gc, .int 0, .int 0, .int 0])), (gc, .inl (cA 9, 8, .inr (.inr (.inr (.inr (fun i => some (ga i))))))), (br, .inr (1, [.null, .int 0, .int 0, .int 0]))] ++ rws (cA 0) ga (gmx 8 0)) := hD
  refine lv_dup hx hb dX5_init_30 rfl ?_
  refine xm_ofQ (X9 := [(b, .inr (5, [.ref ro, .ref gr, .null, .int 0, .int 0])), (ro, .inr (4, [.ref b0, .ref b1, .ref b2, .ref b3, .ref b4, .ref b5, .ref b6, .ref b7, .ref b8])), (b0, .inl (cA 0, 8, .inl (lz 8))), (b1, .inl (cA 0, 39, .inl (r0 (fun _ _ => 0)))), (b2, .inl (cA 1, 39, .inr (.inl (r1 (fun _ _ => 0))))), (b3, .inl (cA 2, 39, .inl (r2 (fun _ _ => 0)))), (b4, .inl (cA 3, 39, .inl (r3 (fun _ _ => 0)))), (b5, .inl (cA 4, 39, .inl (r4 (fun _ _ => 0)))), (b6, .inl (cA 5, 39, .inl (r5 (fun _ _ => 0)))), (b7, .inl (cA 6, 39, .inr (.inr (.inl (r6 (fun _ _ => 0)))))), (b8, .inl (cA 7, 39, .inr (.inr (.inr (.inl (r7 (fun _ _ => 0))))))), (gr, .inr (3, [.ref gc, .int 0, .int 0, .int 0])), (gc, .inl (cA 9, 8, .inr (.inr (.inr (.inr (fun i => some (ga i))))))), (br, .inr (1, [.null, .int 0, .int 0, .int 0]))]) (pl := rws (cA 0) ga (gmx 8 0)) (wc := [(br, .inr (1, [.null, .int 0, .int 0, .int 0]))]) (wo := [(b, .inr (5, [.ref ro, .ref gr, .null, .int 0, .int 0])), (ro, .inr (4, [.ref b0, .ref b1, .ref b2, .ref b3, .ref b4, .ref b5, .ref b6, .ref b7, .ref b8])), (b0, .inl (cA 0, 8, .inl (lz 8))), (b1, .inl (cA 0, 39, .inl (r0 (fun _ _ => 0)))), (b2, .inl (cA 1, 39, .inr (.inl (r1 (fun _ _ => 0))))), (b3, .inl (cA 2, 39, .inl (r2 (fun _ _ => 0)))), (b4, .inl (cA 3, 39, .inl (r3 (fun _ _ => 0)))), (b5, .inl (cA 4, 39, .inl (r4 (fun _ _ => 0)))), (b6, .inl (cA 5, 39, .inl (r5 (fun _ _ => 0)))), (b7, .inl (cA 6, 39, .inr (.inr (.inl (r6 (fun _ _ => 0)))))), (b8, .inl (cA 7, 39, .inr (.inr (.inr (.inl (r7 (fun _ _ => 0))))))), (gr, .inr (3, [.ref gc, .int 0, .int 0, .int 0])), (gc, .inl (cA 9, 8, .inr (.inr (.inr (.inr (fun i => some (ga i)))))))]) (va_runIN (As := []) (rest := [.ref br, .ref b]) ⟨hx, hb, hml, hown, xTs⟩ (c_brInit h br _) ⟨xCN (n := 0) (k_93 h hb0) (k_4 h hb0) (k_91 h hb0) (by decide) rfl rfl rfl (by decide) (by decide), rfl, (k_92 h hb0)⟩ (xpMS (As := [.ref br]) (wr := []) (wc := [(br, .inr (1, [.null, .int 0, .int 0, .int 0]))]) hb0 hS hz (va_P.sub hP [] rfl) (va_P.sub hP [13] rfl) (va_D.sub (hwk _ hD) [13] rfl rfl)) rfl rfl hl.1 rfl (lv_room (Nat.le_of_ble_eq_true rfl)) dX5_init_31 ⟨(Nat.le_of_ble_eq_true rfl), (Nat.le_of_ble_eq_true rfl)⟩) hP hD hS hA [13] [0, 1, 2, 3, 4, 5, 6, 7, 8, 9, 10, 11, 12] rfl rfl rfl (by decide) (fun r w1 H locs hΦ hP hD hS => ?_)
  obtain ⟨pl, rfl, rfl⟩ := hΦ
  have hP : va_P (dC, dI) vwCl ([(b, .inr (5, [.ref ro, .ref gr, .null, .int 0, .int 0])), (ro, .inr (4, [.ref b0, .ref b1, .ref b2, .ref b3, .ref b4, .ref b5, .ref b6, .ref b7, .ref b8])), (b0, .inl (cA 0, 8, .inl (lz 8))), (b1, .inl (cA 0, 39, .inl (r0 (fun _ _ => 0)))), (b2, .inl (cA 1, 39, .inr (.inl (r1 (fun _ _ => 0))))), (b3, .inl (cA 2, 39, .inl (r2 (fun _ _ => 0)))), (b4, .inl (cA 3, 39, .inl (r3 (fun _ _ => 0)))), (b5, .inl (cA 4, 39, .inl (r4 (fun _ _ => 0)))), (b6, .inl (cA 5, 39, .inl (r5 (fun _ _ => 0)))), (b7, .inl (cA 6, 39, .inr (.inr (.inl (r6 (fun _ _ => 0)))))), (b8, .inl (cA 7, 39, .inr (.inr (.inr (.inl (r7 (fun _ _ => 0))))))), (gr, .inr (3, [.ref gc, .int 0, .int 0, .int 0])), (gc, .inl (cA 9, 8, .inr (.inr (.inr (.inr (fun i => some (ga i))))))), (br, .inr (1, [.ref pl, .int 0, .int 0, .int 0])), (pl, .inl (cA 8, 19, .inr (.inr (.inr (.inr (fun _ => none))))))] ++ rws (cA 0) ga (gmx 8 0)) H := hP
  have hD : va_D A ([(b, .inr (5, [.ref ro, .ref gr, .null, .int 0, .int 0])), (ro, .inr (4, [.ref b0, .ref b1, .ref b2, .ref b3, .ref b4, .ref b5, .ref b6, .ref b7, .ref b8])), (b0, .inl (cA 0, 8, .inl (lz 8))), (b1, .inl (cA 0, 39, .inl (r0 (fun _ _ => 0)))), (b2, .inl (cA 1, 39, .inr (.inl (r1 (fun _ _ => 0))))), (b3, .inl (cA 2, 39, .inl (r2 (fun _ _ => 0)))), (b4, .inl (cA 3, 39, .inl (r3 (fun _ _ => 0)))), (b5, .inl (cA 4, 39, .inl (r4 (fun _ _ => 0)))), (b6, .inl (cA 5, 39, .inl (r5 (fun _ _ => 0)))), (b7, .inl (cA 6, 39, .inr (.inr (.inl (r6 (fun _ _ => 0)))))), (b8, .inl (cA 7, 39, .inr (.inr (.inr (.inl (r7 (fun _ _ => 0))))))), (gr, .inr (3, [.ref gc, .int 0, .int 0, .int 0])), (gc, .inl (cA 9, 8, .inr (.inr (.inr (.inr (fun i => some (ga i))))))), (br, .inr (1, [.ref pl, .int 0, .int 0, .int 0])), (pl, .inl (cA 8, 19, .inr (.inr (.inr (.inr (fun _ => none))))))] ++ rws (cA 0) ga (gmx 8 0)) := hD
  refine va_putF (D := (dC, dI)) (ci := 5) (v := .ref br) (ty := .object "FaultBench$BoxRow") (C := RX5) (T := TX5) (N := 5) hx hb (ly_5 h hb0) (fun _ z => z) tyX5 tyX5_ok nmX5 hown hK hP hD hS 0 rfl rfl 2 (by decide) (k_112 h hb0) (fun _ z => z) rfl hin rfl (by decide +kernel) rfl rfl (Nat.le_of_ble_eq_true rfl) dX5_init_34 (fun H locs hP hD hS => ?_)
  have hP : va_P (dC, dI) vwCl ([(b, .inr (5, [.ref ro, .ref gr, .ref br, .int 0, .int 0])), (ro, .inr (4, [.ref b0, .ref b1, .ref b2, .ref b3, .ref b4, .ref b5, .ref b6, .ref b7, .ref b8])), (b0, .inl (cA 0, 8, .inl (lz 8))), (b1, .inl (cA 0, 39, .inl (r0 (fun _ _ => 0)))), (b2, .inl (cA 1, 39, .inr (.inl (r1 (fun _ _ => 0))))), (b3, .inl (cA 2, 39, .inl (r2 (fun _ _ => 0)))), (b4, .inl (cA 3, 39, .inl (r3 (fun _ _ => 0)))), (b5, .inl (cA 4, 39, .inl (r4 (fun _ _ => 0)))), (b6, .inl (cA 5, 39, .inl (r5 (fun _ _ => 0)))), (b7, .inl (cA 6, 39, .inr (.inr (.inl (r6 (fun _ _ => 0)))))), (b8, .inl (cA 7, 39, .inr (.inr (.inr (.inl (r7 (fun _ _ => 0))))))), (gr, .inr (3, [.ref gc, .int 0, .int 0, .int 0])), (gc, .inl (cA 9, 8, .inr (.inr (.inr (.inr (fun i => some (ga i))))))), (br, .inr (1, [.ref pl, .int 0, .int 0, .int 0])), (pl, .inl (cA 8, 19, .inr (.inr (.inr (.inr (fun _ => none))))))] ++ rws (cA 0) ga (gmx 8 0)) H := hP
  have hD : va_D A ([(b, .inr (5, [.ref ro, .ref gr, .ref br, .int 0, .int 0])), (ro, .inr (4, [.ref b0, .ref b1, .ref b2, .ref b3, .ref b4, .ref b5, .ref b6, .ref b7, .ref b8])), (b0, .inl (cA 0, 8, .inl (lz 8))), (b1, .inl (cA 0, 39, .inl (r0 (fun _ _ => 0)))), (b2, .inl (cA 1, 39, .inr (.inl (r1 (fun _ _ => 0))))), (b3, .inl (cA 2, 39, .inl (r2 (fun _ _ => 0)))), (b4, .inl (cA 3, 39, .inl (r3 (fun _ _ => 0)))), (b5, .inl (cA 4, 39, .inl (r4 (fun _ _ => 0)))), (b6, .inl (cA 5, 39, .inl (r5 (fun _ _ => 0)))), (b7, .inl (cA 6, 39, .inr (.inr (.inl (r6 (fun _ _ => 0)))))), (b8, .inl (cA 7, 39, .inr (.inr (.inr (.inl (r7 (fun _ _ => 0))))))), (gr, .inr (3, [.ref gc, .int 0, .int 0, .int 0])), (gc, .inl (cA 9, 8, .inr (.inr (.inr (.inr (fun i => some (ga i))))))), (br, .inr (1, [.ref pl, .int 0, .int 0, .int 0])), (pl, .inl (cA 8, 19, .inr (.inr (.inr (.inr (fun _ => none))))))] ++ rws (cA 0) ga (gmx 8 0)) := hD
  refine lv_aload_n hx hb dX5_init_37 rfl (lv_at hl 0 rfl) ?_
  refine lv_iconst (v := 0) hx hb dX5_init_38 (by decide) ?_
  refine va_put (D := (dC, dI)) (ci := 5) (v := .int 0) (ty := .int) (C := RX5) (T := TX5) (N := 5) hx hb (ly_5 h hb0) (fun _ z => z) tyX5 tyX5_ok nmX5 hown hK hP hD hS 0 rfl rfl 3 (by decide) (k_113 h hb0) (fun _ z => z) rfl (by decide +kernel) rfl rfl (Nat.le_of_ble_eq_true rfl) dX5_init_39 (fun H locs hP hD hS => ?_)
  have hP : va_P (dC, dI) vwCl ([(b, .inr (5, [.ref ro, .ref gr, .ref br, .int 0, .int 0])), (ro, .inr (4, [.ref b0, .ref b1, .ref b2, .ref b3, .ref b4, .ref b5, .ref b6, .ref b7, .ref b8])), (b0, .inl (cA 0, 8, .inl (lz 8))), (b1, .inl (cA 0, 39, .inl (r0 (fun _ _ => 0)))), (b2, .inl (cA 1, 39, .inr (.inl (r1 (fun _ _ => 0))))), (b3, .inl (cA 2, 39, .inl (r2 (fun _ _ => 0)))), (b4, .inl (cA 3, 39, .inl (r3 (fun _ _ => 0)))), (b5, .inl (cA 4, 39, .inl (r4 (fun _ _ => 0)))), (b6, .inl (cA 5, 39, .inl (r5 (fun _ _ => 0)))), (b7, .inl (cA 6, 39, .inr (.inr (.inl (r6 (fun _ _ => 0)))))), (b8, .inl (cA 7, 39, .inr (.inr (.inr (.inl (r7 (fun _ _ => 0))))))), (gr, .inr (3, [.ref gc, .int 0, .int 0, .int 0])), (gc, .inl (cA 9, 8, .inr (.inr (.inr (.inr (fun i => some (ga i))))))), (br, .inr (1, [.ref pl, .int 0, .int 0, .int 0])), (pl, .inl (cA 8, 19, .inr (.inr (.inr (.inr (fun _ => none))))))] ++ rws (cA 0) ga (gmx 8 0)) H := hP
  have hD : va_D A ([(b, .inr (5, [.ref ro, .ref gr, .ref br, .int 0, .int 0])), (ro, .inr (4, [.ref b0, .ref b1, .ref b2, .ref b3, .ref b4, .ref b5, .ref b6, .ref b7, .ref b8])), (b0, .inl (cA 0, 8, .inl (lz 8))), (b1, .inl (cA 0, 39, .inl (r0 (fun _ _ => 0)))), (b2, .inl (cA 1, 39, .inr (.inl (r1 (fun _ _ => 0))))), (b3, .inl (cA 2, 39, .inl (r2 (fun _ _ => 0)))), (b4, .inl (cA 3, 39, .inl (r3 (fun _ _ => 0)))), (b5, .inl (cA 4, 39, .inl (r4 (fun _ _ => 0)))), (b6, .inl (cA 5, 39, .inl (r5 (fun _ _ => 0)))), (b7, .inl (cA 6, 39, .inr (.inr (.inl (r6 (fun _ _ => 0)))))), (b8, .inl (cA 7, 39, .inr (.inr (.inr (.inl (r7 (fun _ _ => 0))))))), (gr, .inr (3, [.ref gc, .int 0, .int 0, .int 0])), (gc, .inl (cA 9, 8, .inr (.inr (.inr (.inr (fun i => some (ga i))))))), (br, .inr (1, [.ref pl, .int 0, .int 0, .int 0])), (pl, .inl (cA 8, 19, .inr (.inr (.inr (.inr (fun _ => none))))))] ++ rws (cA 0) ga (gmx 8 0)) := hD
  refine lv_aload_n hx hb dX5_init_42 rfl (lv_at hl 0 rfl) ?_
  refine lv_iconst (v := 0) hx hb dX5_init_43 (by decide) ?_
  refine va_put (D := (dC, dI)) (ci := 5) (v := .int 0) (ty := .int) (C := RX5) (T := TX5) (N := 5) hx hb (ly_5 h hb0) (fun _ z => z) tyX5 tyX5_ok nmX5 hown hK hP hD hS 0 rfl rfl 4 (by decide) (k_114 h hb0) (fun _ z => z) rfl (by decide +kernel) rfl rfl (Nat.le_of_ble_eq_true rfl) dX5_init_44 (fun H locs hP hD hS => ?_)
  have hP : va_P (dC, dI) vwCl ([(b, .inr (5, [.ref ro, .ref gr, .ref br, .int 0, .int 0])), (ro, .inr (4, [.ref b0, .ref b1, .ref b2, .ref b3, .ref b4, .ref b5, .ref b6, .ref b7, .ref b8])), (b0, .inl (cA 0, 8, .inl (lz 8))), (b1, .inl (cA 0, 39, .inl (r0 (fun _ _ => 0)))), (b2, .inl (cA 1, 39, .inr (.inl (r1 (fun _ _ => 0))))), (b3, .inl (cA 2, 39, .inl (r2 (fun _ _ => 0)))), (b4, .inl (cA 3, 39, .inl (r3 (fun _ _ => 0)))), (b5, .inl (cA 4, 39, .inl (r4 (fun _ _ => 0)))), (b6, .inl (cA 5, 39, .inl (r5 (fun _ _ => 0)))), (b7, .inl (cA 6, 39, .inr (.inr (.inl (r6 (fun _ _ => 0)))))), (b8, .inl (cA 7, 39, .inr (.inr (.inr (.inl (r7 (fun _ _ => 0))))))), (gr, .inr (3, [.ref gc, .int 0, .int 0, .int 0])), (gc, .inl (cA 9, 8, .inr (.inr (.inr (.inr (fun i => some (ga i))))))), (br, .inr (1, [.ref pl, .int 0, .int 0, .int 0])), (pl, .inl (cA 8, 19, .inr (.inr (.inr (.inr (fun _ => none))))))] ++ rws (cA 0) ga (gmx 8 0)) H := hP
  have hD : va_D A ([(b, .inr (5, [.ref ro, .ref gr, .ref br, .int 0, .int 0])), (ro, .inr (4, [.ref b0, .ref b1, .ref b2, .ref b3, .ref b4, .ref b5, .ref b6, .ref b7, .ref b8])), (b0, .inl (cA 0, 8, .inl (lz 8))), (b1, .inl (cA 0, 39, .inl (r0 (fun _ _ => 0)))), (b2, .inl (cA 1, 39, .inr (.inl (r1 (fun _ _ => 0))))), (b3, .inl (cA 2, 39, .inl (r2 (fun _ _ => 0)))), (b4, .inl (cA 3, 39, .inl (r3 (fun _ _ => 0)))), (b5, .inl (cA 4, 39, .inl (r4 (fun _ _ => 0)))), (b6, .inl (cA 5, 39, .inl (r5 (fun _ _ => 0)))), (b7, .inl (cA 6, 39, .inr (.inr (.inl (r6 (fun _ _ => 0)))))), (b8, .inl (cA 7, 39, .inr (.inr (.inr (.inl (r7 (fun _ _ => 0))))))), (gr, .inr (3, [.ref gc, .int 0, .int 0, .int 0])), (gc, .inl (cA 9, 8, .inr (.inr (.inr (.inr (fun i => some (ga i))))))), (br, .inr (1, [.ref pl, .int 0, .int 0, .int 0])), (pl, .inl (cA 8, 19, .inr (.inr (.inr (.inr (fun _ => none))))))] ++ rws (cA 0) ga (gmx 8 0)) := hD
  exact W.vret hx hb hr (fun t ht _ => ⟨none, _, rfl, ⟨ro, b0, b1, b2, b3, b4, b5, b6, b7, b8, gr, gc, br, pl, ga, rfl, rfl⟩, by rw [ht]; exact hP, hD, hS.F ht⟩) (fun q z => hS.2.2 q z) dX5_init_47
end
