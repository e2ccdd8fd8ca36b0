section
def lw_okq (q : MethodName × Nat) : Prop := (q.1.cls ≠ "java/lang/invoke/MethodHandle" ∧ q.1.cls ≠ "java/lang/invoke/VarHandle") ∧ Cond.instantiable q.1.cls q.2 ∈ tables_1 ∧ Cond.privateMethod q.1 ∈ tables_1 ∧ Cond.instanceMethod q.1 ∈ tables_1
theorem lw_p0 : lw_okq (⟨"java/lang/NullPointerException", "getExtendedNPEMessage", "()Ljava/lang/String;"⟩, 8) := ⟨⟨by decide +kernel, by decide +kernel⟩, List.mem_of_getElem? (i := 142) (by decide +kernel), List.mem_of_getElem? (i := 182) (by decide +kernel), List.mem_of_getElem? (i := 183) (by decide +kernel)⟩
theorem lw_p1 : lw_okq (⟨"java/lang/Throwable", "fillInStackTrace", "(I)Ljava/lang/Throwable;"⟩, 6) := ⟨⟨by decide +kernel, by decide +kernel⟩, List.mem_of_getElem? (i := 192) (by decide +kernel), List.mem_of_getElem? (i := 190) (by decide +kernel), List.mem_of_getElem? (i := 191) (by decide +kernel)⟩
theorem lw_p2 : lw_okq (⟨"FaultBench", "boxAt", "(I)LFaultBench$Box;"⟩, 5) := ⟨⟨by decide +kernel, by decide +kernel⟩, List.mem_of_getElem? (i := 19) (by decide +kernel), List.mem_of_getElem? (i := 426) (by decide +kernel), List.mem_of_getElem? (i := 427) (by decide +kernel)⟩
theorem lw_p3 : lw_okq (⟨"FaultBenchModel", "fails", "(I)I"⟩, 13) := ⟨⟨by decide +kernel, by decide +kernel⟩, List.mem_of_getElem? (i := 526) (by decide +kernel), List.mem_of_getElem? (i := 580) (by decide +kernel), List.mem_of_getElem? (i := 581) (by decide +kernel)⟩
theorem lw_p4 : lw_okq (⟨"FaultBenchModel", "isThere", "(I)Z"⟩, 13) := ⟨⟨by decide +kernel, by decide +kernel⟩, List.mem_of_getElem? (i := 526) (by decide +kernel), List.mem_of_getElem? (i := 626) (by decide +kernel), List.mem_of_getElem? (i := 627) (by decide +kernel)⟩
def lw_privs_1 : List (MethodName × Nat) := [(⟨"java/lang/NullPointerException", "getExtendedNPEMessage", "()Ljava/lang/String;"⟩, 8), (⟨"java/lang/Throwable", "fillInStackTrace", "(I)Ljava/lang/Throwable;"⟩, 6), (⟨"FaultBench", "boxAt", "(I)LFaultBench$Box;"⟩, 5), (⟨"FaultBenchModel", "fails", "(I)I"⟩, 13), (⟨"FaultBenchModel", "isThere", "(I)Z"⟩, 13)]
theorem lw_r1 : ∀ q ∈ lw_privs_1, lw_okq q := List.forall_mem_cons.mpr ⟨lw_p0, List.forall_mem_cons.mpr ⟨lw_p1, List.forall_mem_cons.mpr ⟨lw_p2, List.forall_mem_cons.mpr ⟨lw_p3, List.forall_mem_cons.mpr ⟨lw_p4, fun _ h => absurd h List.not_mem_nil⟩⟩⟩⟩⟩
def lw_privs : List (MethodName × Nat) := lw_privs_1
def lw_tbl : List Cond := k2_sels lw_privs ++ tables_1
theorem lw_privs_ok : ∀ q ∈ lw_privs, lw_okq q := lw_r1
end
section
def RX0 : String := "FaultBench$Box"
def TX0 : u_T := fun k => match k with
  | _ => ("FaultBench$Box", "value", "I", false)
def tyX0 : Nat → FieldType := fun k => match k with
  | _ => .int
theorem nmX0 : ∀ a, a < 1 → ∀ b, b < 1 → a ≠ b → (TX0 a).2.1 ≠ (TX0 b).2.1 := by decide +kernel
theorem tyX0_ok : ∀ k, k < 1 → parseFieldDescriptor (TX0 k).2.2.1 = some (tyX0 k) := by decide +kernel
abbrev cX0_init : ByteArray := prog_2_method_1_code
def yX0_init : MethodName := ⟨RX0, "<init>", "(I)V"⟩
abbrev cX0_weightWith : ByteArray := prog_2_method_2_code
def yX0_weightWith : MethodName := ⟨RX0, "weightWith", "(I)I"⟩
def RX1 : String := "FaultBench$BoxRow"
def TX1 : u_T := fun k => match k with
  | 0 => ("FaultBench$BoxRow", "places", "[LFaultBench$Box;", true)
  | 1 => ("FaultBench$BoxRow", "made", "Z", false)
  | 2 => ("FaultBench$BoxRow", "discsAlone", "Z", false)
  | _ => ("FaultBench$BoxRow", "count", "I", false)
def tyX1 : Nat → FieldType := fun k => match k with
  | 0 => .array (.object "FaultBench$Box")
  | 1 => .boolean
  | 2 => .boolean
  | _ => .int
theorem nmX1 : ∀ a, a < 4 → ∀ b, b < 4 → a ≠ b → (TX1 a).2.1 ≠ (TX1 b).2.1 := by decide +kernel
theorem tyX1_ok : ∀ k, k < 4 → parseFieldDescriptor (TX1 k).2.2.1 = some (tyX1 k) := by decide +kernel
abbrev cX1_init : ByteArray := prog_3_method_1_code
def yX1_init : MethodName := ⟨RX1, "<init>", "()V"⟩
abbrev cX1_renew : ByteArray := prog_3_method_2_code
def yX1_renew : MethodName := ⟨RX1, "renew", "(IZ)V"⟩
abbrev cX1_isMade : ByteArray := prog_3_method_3_code
def yX1_isMade : MethodName := ⟨RX1, "isMade", "()Z"⟩
abbrev cX1_placeCount : ByteArray := prog_3_method_4_code
def yX1_placeCount : MethodName := ⟨RX1, "placeCount", "()I"⟩
abbrev cX1_takes : ByteArray := prog_3_method_5_code
def yX1_takes : MethodName := ⟨RX1, "takes", "(LFaultBench$Box;)Z"⟩
abbrev cX1_store : ByteArray := prog_3_method_6_code
def yX1_store : MethodName := ⟨RX1, "store", "(ILFaultBench$Box;)V"⟩
abbrev cX1_boxAtPlace : ByteArray := prog_3_method_7_code
def yX1_boxAtPlace : MethodName := ⟨RX1, "boxAtPlace", "(I)LFaultBench$Box;"⟩
def RX2 : String := "FaultBench$Disc"
def TX2 : u_T := fun k => match k with
  | _ => ("FaultBench$Box", "value", "I", false)
def tyX2 : Nat → FieldType := fun k => match k with
  | _ => .int
theorem nmX2 : ∀ a, a < 1 → ∀ b, b < 1 → a ≠ b → (TX2 a).2.1 ≠ (TX2 b).2.1 := by decide +kernel
theorem tyX2_ok : ∀ k, k < 1 → parseFieldDescriptor (TX2 k).2.2.1 = some (tyX2 k) := by decide +kernel
abbrev cX2_init : ByteArray := prog_4_method_1_code
def yX2_init : MethodName := ⟨RX2, "<init>", "(I)V"⟩
abbrev cX2_weightWith : ByteArray := prog_4_method_2_code
def yX2_weightWith : MethodName := ⟨RX2, "weightWith", "(I)I"⟩
abbrev cX2_rolledWith : ByteArray := prog_4_method_3_code
def yX2_rolledWith : MethodName := ⟨RX2, "rolledWith", "(I)I"⟩
def RX3 : String := "FaultBench$Grid"
def TX3 : u_T := fun k => match k with
  | 0 => ("FaultBench$Grid", "cells", "[[I", true)
  | 1 => ("FaultBench$Grid", "made", "Z", false)
  | 2 => ("FaultBench$Grid", "height", "I", false)
  | _ => ("FaultBench$Grid", "width", "I", false)
def tyX3 : Nat → FieldType := fun k => match k with
  | 0 => .array (.array .int)
  | 1 => .boolean
  | 2 => .int
  | _ => .int
theorem nmX3 : ∀ a, a < 4 → ∀ b, b < 4 → a ≠ b → (TX3 a).2.1 ≠ (TX3 b).2.1 := by decide +kernel
theorem tyX3_ok : ∀ k, k < 4 → parseFieldDescriptor (TX3 k).2.2.1 = some (tyX3 k) := by decide +kernel
abbrev cX3_init : ByteArray := prog_5_method_1_code
def yX3_init : MethodName := ⟨RX3, "<init>", "()V"⟩
abbrev cX3_renew : ByteArray := prog_5_method_2_code
def yX3_renew : MethodName := ⟨RX3, "renew", "(II)V"⟩
abbrev cX3_isMade : ByteArray := prog_5_method_3_code
def yX3_isMade : MethodName := ⟨RX3, "isMade", "()Z"⟩
abbrev cX3_rowCount : ByteArray := prog_5_method_4_code
def yX3_rowCount : MethodName := ⟨RX3, "rowCount", "()I"⟩
abbrev cX3_columnCount : ByteArray := prog_5_method_5_code
def yX3_columnCount : MethodName := ⟨RX3, "columnCount", "()I"⟩
abbrev cX3_numberAt : ByteArray := prog_5_method_6_code
def yX3_numberAt : MethodName := ⟨RX3, "numberAt", "(II)I"⟩
def RX4 : String := "FaultBench$Rows"
def TX4 : u_T := fun k => match k with
  | 0 => ("FaultBench$Rows", "lengths", "[I", true)
  | 1 => ("FaultBench$Rows", "ints", "[I", true)
  | 2 => ("FaultBench$Rows", "longs", "[J", true)
  | 3 => ("FaultBench$Rows", "shorts", "[S", true)
  | 4 => ("FaultBench$Rows", "bytes", "[B", true)
  | 5 => ("FaultBench$Rows", "chars", "[C", true)
  | 6 => ("FaultBench$Rows", "booleans", "[Z", true)
  | 7 => ("FaultBench$Rows", "floats", "[F", true)
  | _ => ("FaultBench$Rows", "doubles", "[D", true)
def tyX4 : Nat → FieldType := fun k => match k with
  | 0 => .array .int
  | 1 => .array .int
  | 2 => .array .long
  | 3 => .array .short
  | 4 => .array .byte
  | 5 => .array .char
  | 6 => .array .boolean
  | 7 => .array .float
  | _ => .array .double
theorem nmX4 : ∀ a, a < 9 → ∀ b, b < 9 → a ≠ b → (TX4 a).2.1 ≠ (TX4 b).2.1 := by decide +kernel
theorem tyX4_ok : ∀ k, k < 9 → parseFieldDescriptor (TX4 k).2.2.1 = some (tyX4 k) := by decide +kernel
abbrev cX4_init : ByteArray := prog_6_method_1_code
def yX4_init : MethodName := ⟨RX4, "<init>", "()V"⟩
abbrev cX4_cellCount : ByteArray := prog_6_method_2_code
def yX4_cellCount : MethodName := ⟨RX4, "cellCount", "(I)I"⟩
abbrev cX4_renew : ByteArray := prog_6_method_3_code
def yX4_renew : MethodName := ⟨RX4, "renew", "(II)V"⟩
abbrev cX4_numberAt : ByteArray := prog_6_method_4_code
def yX4_numberAt : MethodName := ⟨RX4, "numberAt", "(II)J"⟩
abbrev cX4_store : ByteArray := prog_6_method_5_code
def yX4_store : MethodName := ⟨RX4, "store", "(III)V"⟩
def RX5 : String := "FaultBench"
def TX5 : u_T := fun k => match k with
  | 0 => ("FaultBench", "rows", "LFaultBench$Rows;", true)
  | 1 => ("FaultBench", "grid", "LFaultBench$Grid;", true)
  | 2 => ("FaultBench", "boxRow", "LFaultBench$BoxRow;", true)
  | 3 => ("FaultBench", "written", "I", false)
  | _ => ("FaultBench", "came", "I", false)
def tyX5 : Nat → FieldType := fun k => match k with
  | 0 => .object "FaultBench$Rows"
  | 1 => .object "FaultBench$Grid"
  | 2 => .object "FaultBench$BoxRow"
  | 3 => .int
  | _ => .int
theorem nmX5 : ∀ a, a < 5 → ∀ b, b < 5 → a ≠ b → (TX5 a).2.1 ≠ (TX5 b).2.1 := by decide +kernel
theorem tyX5_ok : ∀ k, k < 5 → parseFieldDescriptor (TX5 k).2.2.1 = some (tyX5 k) := by decide +kernel
abbrev cX5_init : ByteArray := prog_1_method_1_code
def yX5_init : MethodName := ⟨RX5, "<init>", "()V"⟩
abbrev cX5_read : ByteArray := prog_1_method_2_code
def yX5_read : MethodName := ⟨RX5, "read", "(IZI)J"⟩
abbrev cX5_write : ByteArray := prog_1_method_3_code
def yX5_write : MethodName := ⟨RX5, "write", "(IZII)I"⟩
abbrev cX5_length : ByteArray := prog_1_method_4_code
def yX5_length : MethodName := ⟨RX5, "length", "(IZ)I"⟩
abbrev cX5_make : ByteArray := prog_1_method_5_code
def yX5_make : MethodName := ⟨RX5, "make", "(II)I"⟩
abbrev cX5_grid : ByteArray := prog_1_method_6_code
def yX5_grid : MethodName := ⟨RX5, "grid", "(II)I"⟩
abbrev cX5_cell : ByteArray := prog_1_method_7_code
def yX5_cell : MethodName := ⟨RX5, "cell", "(II)I"⟩
abbrev cX5_boxes : ByteArray := prog_1_method_8_code
def yX5_boxes : MethodName := ⟨RX5, "boxes", "(IZ)I"⟩
abbrev cX5_put : ByteArray := prog_1_method_9_code
def yX5_put : MethodName := ⟨RX5, "put", "(ZIII)I"⟩
abbrev cX5_value : ByteArray := prog_1_method_10_code
def yX5_value : MethodName := ⟨RX5, "value", "(I)I"⟩
abbrev cX5_change : ByteArray := prog_1_method_11_code
def yX5_change : MethodName := ⟨RX5, "change", "(II)I"⟩
abbrev cX5_weigh : ByteArray := prog_1_method_12_code
def yX5_weigh : MethodName := ⟨RX5, "weigh", "(II)I"⟩
abbrev cX5_roll : ByteArray := prog_1_method_13_code
def yX5_roll : MethodName := ⟨RX5, "roll", "(II)I"⟩
abbrev cX5_divide : ByteArray := prog_1_method_14_code
def yX5_divide : MethodName := ⟨RX5, "divide", "(IIZ)I"⟩
abbrev cX5_divideLong : ByteArray := prog_1_method_15_code
def yX5_divideLong : MethodName := ⟨RX5, "divideLong", "(JJZ)J"⟩
abbrev cX5_raise : ByteArray := prog_1_method_16_code
def yX5_raise : MethodName := ⟨RX5, "raise", "(Z)I"⟩
abbrev cX5_kindOf : ByteArray := prog_1_method_17_code
def yX5_kindOf : MethodName := ⟨RX5, "kindOf", "(I)I"⟩
abbrev cX5_needThere : ByteArray := prog_1_method_18_code
def yX5_needThere : MethodName := ⟨RX5, "needThere", "(Z)V"⟩
abbrev cX5_needPlace : ByteArray := prog_1_method_19_code
def yX5_needPlace : MethodName := ⟨RX5, "needPlace", "(II)V"⟩
abbrev cX5_needSize : ByteArray := prog_1_method_20_code
def yX5_needSize : MethodName := ⟨RX5, "needSize", "(I)V"⟩
abbrev cX5_needDivisor : ByteArray := prog_1_method_21_code
def yX5_needDivisor : MethodName := ⟨RX5, "needDivisor", "(J)V"⟩
abbrev cX5_newBox : ByteArray := prog_1_method_22_code
def yX5_newBox : MethodName := ⟨RX5, "newBox", "(II)LFaultBench$Box;"⟩
abbrev cX5_boxAt : ByteArray := prog_1_method_23_code
def yX5_boxAt : MethodName := ⟨RX5, "boxAt", "(I)LFaultBench$Box;"⟩
def RX6 : String := "FaultBenchModel"
def TX6 : u_T := fun k => match k with
  | 0 => ("FaultBenchModel", "thrown", "I", false)
  | 1 => ("FaultBenchModel", "rows", "[J", true)
  | 2 => ("FaultBenchModel", "lengths", "[I", true)
  | 3 => ("FaultBenchModel", "written", "I", false)
  | 4 => ("FaultBenchModel", "gridThere", "Z", false)
  | 5 => ("FaultBenchModel", "gridRows", "I", false)
  | 6 => ("FaultBenchModel", "gridCells", "I", false)
  | 7 => ("FaultBenchModel", "boxesThere", "Z", false)
  | 8 => ("FaultBenchModel", "discsAlone", "Z", false)
  | 9 => ("FaultBenchModel", "places", "I", false)
  | 10 => ("FaultBenchModel", "came", "I", false)
  | 11 => ("FaultBenchModel", "sort", "[I", true)
  | _ => ("FaultBenchModel", "values", "[I", true)
def tyX6 : Nat → FieldType := fun k => match k with
  | 0 => .int
  | 1 => .array .long
  | 2 => .array .int
  | 3 => .int
  | 4 => .boolean
  | 5 => .int
  | 6 => .int
  | 7 => .boolean
  | 8 => .boolean
  | 9 => .int
  | 10 => .int
  | 11 => .array .int
  | _ => .array .int
theorem nmX6 : ∀ a, a < 13 → ∀ b, b < 13 → a ≠ b → (TX6 a).2.1 ≠ (TX6 b).2.1 := by decide +kernel
theorem tyX6_ok : ∀ k, k < 13 → parseFieldDescriptor (TX6 k).2.2.1 = some (tyX6 k) := by decide +kernel
abbrev cX6_init : ByteArray := prog_8_method_1_code
def yX6_init : MethodName := ⟨RX6, "<init>", "()V"⟩
abbrev cX6_thrown : ByteArray := prog_8_method_2_code
def yX6_thrown : MethodName := ⟨RX6, "thrown", "()I"⟩
abbrev cX6_fails : ByteArray := prog_8_method_3_code
def yX6_fails : MethodName := ⟨RX6, "fails", "(I)I"⟩
abbrev cX6_nearest : ByteArray := prog_8_method_4_code
def yX6_nearest : MethodName := ⟨RX6, "nearest", "(I)J"⟩
abbrev cX6_kept : ByteArray := prog_8_method_5_code
def yX6_kept : MethodName := ⟨RX6, "kept", "(II)J"⟩
abbrev cX6_read : ByteArray := prog_8_method_6_code
def yX6_read : MethodName := ⟨RX6, "read", "(IZI)J"⟩
abbrev cX6_write : ByteArray := prog_8_method_7_code
def yX6_write : MethodName := ⟨RX6, "write", "(IZII)I"⟩
abbrev cX6_length : ByteArray := prog_8_method_8_code
def yX6_length : MethodName := ⟨RX6, "length", "(IZ)I"⟩
abbrev cX6_make : ByteArray := prog_8_method_9_code
def yX6_make : MethodName := ⟨RX6, "make", "(II)I"⟩
abbrev cX6_grid : ByteArray := prog_8_method_10_code
def yX6_grid : MethodName := ⟨RX6, "grid", "(II)I"⟩
abbrev cX6_cell : ByteArray := prog_8_method_11_code
def yX6_cell : MethodName := ⟨RX6, "cell", "(II)I"⟩
abbrev cX6_boxes : ByteArray := prog_8_method_12_code
def yX6_boxes : MethodName := ⟨RX6, "boxes", "(IZ)I"⟩
abbrev cX6_put : ByteArray := prog_8_method_13_code
def yX6_put : MethodName := ⟨RX6, "put", "(ZIII)I"⟩
abbrev cX6_isThere : ByteArray := prog_8_method_14_code
def yX6_isThere : MethodName := ⟨RX6, "isThere", "(I)Z"⟩
abbrev cX6_value : ByteArray := prog_8_method_15_code
def yX6_value : MethodName := ⟨RX6, "value", "(I)I"⟩
abbrev cX6_change : ByteArray := prog_8_method_16_code
def yX6_change : MethodName := ⟨RX6, "change", "(II)I"⟩
abbrev cX6_weigh : ByteArray := prog_8_method_17_code
def yX6_weigh : MethodName := ⟨RX6, "weigh", "(II)I"⟩
abbrev cX6_roll : ByteArray := prog_8_method_18_code
def yX6_roll : MethodName := ⟨RX6, "roll", "(II)I"⟩
abbrev cX6_divide : ByteArray := prog_8_method_19_code
def yX6_divide : MethodName := ⟨RX6, "divide", "(IIZ)I"⟩
abbrev cX6_divideLong : ByteArray := prog_8_method_20_code
def yX6_divideLong : MethodName := ⟨RX6, "divideLong", "(JJZ)J"⟩
abbrev cX6_raise : ByteArray := prog_8_method_21_code
def yX6_raise : MethodName := ⟨RX6, "raise", "(Z)I"⟩
def RL : String := "FaultBenchLaw"
abbrev cL_read : ByteArray := method_3_code
def yL_read : MethodName := ⟨RL, "read", "(LFaultBench;IZI[J)I"⟩
abbrev cL_write : ByteArray := method_4_code
def yL_write : MethodName := ⟨RL, "write", "(LFaultBench;IZII[J)I"⟩
abbrev cL_length : ByteArray := method_5_code
def yL_length : MethodName := ⟨RL, "length", "(LFaultBench;IZ[J)I"⟩
abbrev cL_make : ByteArray := method_6_code
def yL_make : MethodName := ⟨RL, "make", "(LFaultBench;II[J)I"⟩
abbrev cL_grid : ByteArray := method_7_code
def yL_grid : MethodName := ⟨RL, "grid", "(LFaultBench;II[J)I"⟩
abbrev cL_cell : ByteArray := method_8_code
def yL_cell : MethodName := ⟨RL, "cell", "(LFaultBench;II[J)I"⟩
abbrev cL_boxes : ByteArray := method_9_code
def yL_boxes : MethodName := ⟨RL, "boxes", "(LFaultBench;IZ[J)I"⟩
abbrev cL_put : ByteArray := method_10_code
def yL_put : MethodName := ⟨RL, "put", "(LFaultBench;ZIII[J)I"⟩
abbrev cL_value : ByteArray := method_11_code
def yL_value : MethodName := ⟨RL, "value", "(LFaultBench;I[J)I"⟩
abbrev cL_change : ByteArray := method_12_code
def yL_change : MethodName := ⟨RL, "change", "(LFaultBench;II[J)I"⟩
abbrev cL_weigh : ByteArray := method_13_code
def yL_weigh : MethodName := ⟨RL, "weigh", "(LFaultBench;II[J)I"⟩
abbrev cL_roll : ByteArray := method_14_code
def yL_roll : MethodName := ⟨RL, "roll", "(LFaultBench;II[J)I"⟩
abbrev cL_divide : ByteArray := method_15_code
def yL_divide : MethodName := ⟨RL, "divide", "(LFaultBench;IIZ[J)I"⟩
abbrev cL_divideLong : ByteArray := method_16_code
def yL_divideLong : MethodName := ⟨RL, "divideLong", "(LFaultBench;JJZ[J)I"⟩
abbrev cL_raise : ByteArray := method_17_code
def yL_raise : MethodName := ⟨RL, "raise", "(LFaultBench;Z[J)I"⟩
abbrev cL_law : ByteArray := code
def yL_law : MethodName := ⟨RL, "law", "([I)Z"⟩
abbrev vwCl : List vw_C := [(RX0, TX0, 1), (RX1, TX1, 4), (RX2, TX2, 1), (RX3, TX3, 4), (RX4, TX4, 9), (RX5, TX5, 5), (RX6, TX6, 13)]
end
section
theorem dX0_init_0 : decode cX0_init 0 = .ok (.aload_n 0, 1) := by decide +kernel
theorem dX0_init_1 : decode cX0_init 1 = .ok (.invokespecial 1, 3) := by decide +kernel
theorem dX0_init_4 : decode cX0_init 4 = .ok (.aload_n 0, 1) := by decide +kernel
theorem dX0_init_5 : decode cX0_init 5 = .ok (.iload_n 1, 1) := by decide +kernel
theorem dX0_init_6 : decode cX0_init 6 = .ok (.putfield 7, 3) := by decide +kernel
theorem dX0_init_9 : decode cX0_init 9 = .ok (.return_, 1) := by decide +kernel
theorem dX0_weightWith_0 : decode cX0_weightWith 0 = .ok (.aload_n 0, 1) := by decide +kernel
theorem dX0_weightWith_1 : decode cX0_weightWith 1 = .ok (.getfield 7, 3) := by decide +kernel
theorem dX0_weightWith_4 : decode cX0_weightWith 4 = .ok (.iconst 3, 1) := by decide +kernel
theorem dX0_weightWith_5 : decode cX0_weightWith 5 = .ok (.imul, 1) := by decide +kernel
theorem dX0_weightWith_6 : decode cX0_weightWith 6 = .ok (.iload_n 1, 1) := by decide +kernel
theorem dX0_weightWith_7 : decode cX0_weightWith 7 = .ok (.iadd, 1) := by decide +kernel
theorem dX0_weightWith_8 : decode cX0_weightWith 8 = .ok (.ireturn, 1) := by decide +kernel
theorem dX1_init_0 : decode cX1_init 0 = .ok (.aload_n 0, 1) := by decide +kernel
theorem dX1_init_1 : decode cX1_init 1 = .ok (.invokespecial 3, 3) := by decide +kernel
theorem dX1_init_4 : decode cX1_init 4 = .ok (.aload_n 0, 1) := by decide +kernel
theorem dX1_init_5 : decode cX1_init 5 = .ok (.bipush 19, 2) := by decide +kernel
theorem dX1_init_7 : decode cX1_init 7 = .ok (.anewarray 9, 3) := by decide +kernel
theorem dX1_init_10 : decode cX1_init 10 = .ok (.putfield 11, 3) := by decide +kernel
theorem dX1_init_13 : decode cX1_init 13 = .ok (.aload_n 0, 1) := by decide +kernel
theorem dX1_init_14 : decode cX1_init 14 = .ok (.iconst 0, 1) := by decide +kernel
theorem dX1_init_15 : decode cX1_init 15 = .ok (.putfield 17, 3) := by decide +kernel
theorem dX1_init_18 : decode cX1_init 18 = .ok (.aload_n 0, 1) := by decide +kernel
theorem dX1_init_19 : decode cX1_init 19 = .ok (.iconst 0, 1) := by decide +kernel
theorem dX1_init_20 : decode cX1_init 20 = .ok (.putfield 21, 3) := by decide +kernel
theorem dX1_init_23 : decode cX1_init 23 = .ok (.aload_n 0, 1) := by decide +kernel
theorem dX1_init_24 : decode cX1_init 24 = .ok (.iconst 0, 1) := by decide +kernel
theorem dX1_init_25 : decode cX1_init 25 = .ok (.putfield 24, 3) := by decide +kernel
theorem dX1_init_28 : decode cX1_init 28 = .ok (.return_, 1) := by decide +kernel
theorem dX1_renew_0 : decode cX1_renew 0 = .ok (.iconst 0, 1) := by decide +kernel
theorem dX1_renew_1 : decode cX1_renew 1 = .ok (.istore_n 3, 1) := by decide +kernel
theorem dX1_renew_2 : decode cX1_renew 2 = .ok (.iload_n 3, 1) := by decide +kernel
theorem dX1_renew_3 : decode cX1_renew 3 = .ok (.iload_n 1, 1) := by decide +kernel
theorem dX1_renew_4 : decode cX1_renew 4 = .ok (.if_icmp .ge 16, 3) := by decide +kernel
theorem dX1_renew_7 : decode cX1_renew 7 = .ok (.aload_n 0, 1) := by decide +kernel
theorem dX1_renew_8 : decode cX1_renew 8 = .ok (.getfield 11, 3) := by decide +kernel
theorem dX1_renew_11 : decode cX1_renew 11 = .ok (.iload_n 3, 1) := by decide +kernel
theorem dX1_renew_12 : decode cX1_renew 12 = .ok (.aconst_null, 1) := by decide +kernel
theorem dX1_renew_13 : decode cX1_renew 13 = .ok (.aastore, 1) := by decide +kernel
theorem dX1_renew_14 : decode cX1_renew 14 = .ok (.iinc 3 1, 3) := by decide +kernel
theorem dX1_renew_17 : decode cX1_renew 17 = .ok (.goto (-15), 3) := by decide +kernel
theorem dX1_renew_20 : decode cX1_renew 20 = .ok (.aload_n 0, 1) := by decide +kernel
theorem dX1_renew_21 : decode cX1_renew 21 = .ok (.iconst 1, 1) := by decide +kernel
theorem dX1_renew_22 : decode cX1_renew 22 = .ok (.putfield 17, 3) := by decide +kernel
theorem dX1_renew_25 : decode cX1_renew 25 = .ok (.aload_n 0, 1) := by decide +kernel
theorem dX1_renew_26 : decode cX1_renew 26 = .ok (.iload_n 2, 1) := by decide +kernel
theorem dX1_renew_27 : decode cX1_renew 27 = .ok (.putfield 21, 3) := by decide +kernel
theorem dX1_renew_30 : decode cX1_renew 30 = .ok (.aload_n 0, 1) := by decide +kernel
theorem dX1_renew_31 : decode cX1_renew 31 = .ok (.iload_n 1, 1) := by decide +kernel
theorem dX1_renew_32 : decode cX1_renew 32 = .ok (.putfield 24, 3) := by decide +kernel
theorem dX1_renew_35 : decode cX1_renew 35 = .ok (.return_, 1) := by decide +kernel
theorem dX1_isMade_0 : decode cX1_isMade 0 = .ok (.aload_n 0, 1) := by decide +kernel
theorem dX1_isMade_1 : decode cX1_isMade 1 = .ok (.getfield 17, 3) := by decide +kernel
theorem dX1_isMade_4 : decode cX1_isMade 4 = .ok (.ireturn, 1) := by decide +kernel
theorem dX1_placeCount_0 : decode cX1_placeCount 0 = .ok (.aload_n 0, 1) := by decide +kernel
theorem dX1_placeCount_1 : decode cX1_placeCount 1 = .ok (.getfield 24, 3) := by decide +kernel
theorem dX1_placeCount_4 : decode cX1_placeCount 4 = .ok (.ireturn, 1) := by decide +kernel
theorem dX1_takes_0 : decode cX1_takes 0 = .ok (.aload_n 1, 1) := by decide +kernel
theorem dX1_takes_1 : decode cX1_takes 1 = .ok (.ifnull 17, 3) := by decide +kernel
theorem dX1_takes_4 : decode cX1_takes 4 = .ok (.aload_n 0, 1) := by decide +kernel
theorem dX1_takes_5 : decode cX1_takes 5 = .ok (.getfield 21, 3) := by decide +kernel
theorem dX1_takes_8 : decode cX1_takes 8 = .ok (.ifCond .eq 10, 3) := by decide +kernel
theorem dX1_takes_11 : decode cX1_takes 11 = .ok (.aload_n 1, 1) := by decide +kernel
theorem dX1_takes_12 : decode cX1_takes 12 = .ok (.instanceof 28, 3) := by decide +kernel
theorem dX1_takes_15 : decode cX1_takes 15 = .ok (.ifCond .eq 7, 3) := by decide +kernel
theorem dX1_takes_18 : decode cX1_takes 18 = .ok (.iconst 1, 1) := by decide +kernel
theorem dX1_takes_19 : decode cX1_takes 19 = .ok (.goto 4, 3) := by decide +kernel
theorem dX1_takes_22 : decode cX1_takes 22 = .ok (.iconst 0, 1) := by decide +kernel
theorem dX1_takes_23 : decode cX1_takes 23 = .ok (.ireturn, 1) := by decide +kernel
theorem dX1_store_0 : decode cX1_store 0 = .ok (.aload_n 0, 1) := by decide +kernel
theorem dX1_store_1 : decode cX1_store 1 = .ok (.getfield 11, 3) := by decide +kernel
theorem dX1_store_4 : decode cX1_store 4 = .ok (.iload_n 1, 1) := by decide +kernel
theorem dX1_store_5 : decode cX1_store 5 = .ok (.aload_n 2, 1) := by decide +kernel
theorem dX1_store_6 : decode cX1_store 6 = .ok (.aastore, 1) := by decide +kernel
theorem dX1_store_7 : decode cX1_store 7 = .ok (.return_, 1) := by decide +kernel
theorem dX1_boxAtPlace_0 : decode cX1_boxAtPlace 0 = .ok (.aload_n 0, 1) := by decide +kernel
theorem dX1_boxAtPlace_1 : decode cX1_boxAtPlace 1 = .ok (.getfield 11, 3) := by decide +kernel
theorem dX1_boxAtPlace_4 : decode cX1_boxAtPlace 4 = .ok (.iload_n 1, 1) := by decide +kernel
theorem dX1_boxAtPlace_5 : decode cX1_boxAtPlace 5 = .ok (.aaload, 1) := by decide +kernel
theorem dX1_boxAtPlace_6 : decode cX1_boxAtPlace 6 = .ok (.areturn, 1) := by decide +kernel
theorem dX2_init_0 : decode cX2_init 0 = .ok (.aload_n 0, 1) := by decide +kernel
theorem dX2_init_1 : decode cX2_init 1 = .ok (.iload_n 1, 1) := by decide +kernel
theorem dX2_init_2 : decode cX2_init 2 = .ok (.invokespecial 1, 3) := by decide +kernel
theorem dX2_init_5 : decode cX2_init 5 = .ok (.return_, 1) := by decide +kernel
theorem dX2_weightWith_0 : decode cX2_weightWith 0 = .ok (.aload_n 0, 1) := by decide +kernel
theorem dX2_weightWith_1 : decode cX2_weightWith 1 = .ok (.getfield 7, 3) := by decide +kernel
theorem dX2_weightWith_4 : decode cX2_weightWith 4 = .ok (.iconst 5, 1) := by decide +kernel
theorem dX2_weightWith_5 : decode cX2_weightWith 5 = .ok (.imul, 1) := by decide +kernel
theorem dX2_weightWith_6 : decode cX2_weightWith 6 = .ok (.iload_n 1, 1) := by decide +kernel
theorem dX2_weightWith_7 : decode cX2_weightWith 7 = .ok (.isub, 1) := by decide +kernel
theorem dX2_weightWith_8 : decode cX2_weightWith 8 = .ok (.ireturn, 1) := by decide +kernel
theorem dX2_rolledWith_0 : decode cX2_rolledWith 0 = .ok (.aload_n 0, 1) := by decide +kernel
theorem dX2_rolledWith_1 : decode cX2_rolledWith 1 = .ok (.getfield 7, 3) := by decide +kernel
theorem dX2_rolledWith_4 : decode cX2_rolledWith 4 = .ok (.iload_n 1, 1) := by decide +kernel
theorem dX2_rolledWith_5 : decode cX2_rolledWith 5 = .ok (.ixor, 1) := by decide +kernel
theorem dX2_rolledWith_6 : decode cX2_rolledWith 6 = .ok (.ireturn, 1) := by decide +kernel
theorem dX3_init_0 : decode cX3_init 0 = .ok (.aload_n 0, 1) := by decide +kernel
theorem dX3_init_1 : decode cX3_init 1 = .ok (.invokespecial 3, 3) := by decide +kernel
theorem dX3_init_4 : decode cX3_init 4 = .ok (.aload_n 0, 1) := by decide +kernel
theorem dX3_init_5 : decode cX3_init 5 = .ok (.bipush 8, 2) := by decide +kernel
theorem dX3_init_7 : decode cX3_init 7 = .ok (.bipush 8, 2) := by decide +kernel
theorem dX3_init_9 : decode cX3_init 9 = .ok (.multianewarray 11 2, 4) := by decide +kernel
theorem dX3_init_13 : decode cX3_init 13 = .ok (.putfield 13, 3) := by decide +kernel
theorem dX3_init_16 : decode cX3_init 16 = .ok (.aload_n 0, 1) := by decide +kernel
theorem dX3_init_17 : decode cX3_init 17 = .ok (.iconst 0, 1) := by decide +kernel
theorem dX3_init_18 : decode cX3_init 18 = .ok (.putfield 16, 3) := by decide +kernel
theorem dX3_init_21 : decode cX3_init 21 = .ok (.aload_n 0, 1) := by decide +kernel
theorem dX3_init_22 : decode cX3_init 22 = .ok (.iconst 0, 1) := by decide +kernel
theorem dX3_init_23 : decode cX3_init 23 = .ok (.putfield 20, 3) := by decide +kernel
theorem dX3_init_26 : decode cX3_init 26 = .ok (.aload_n 0, 1) := by decide +kernel
theorem dX3_init_27 : decode cX3_init 27 = .ok (.iconst 0, 1) := by decide +kernel
theorem dX3_init_28 : decode cX3_init 28 = .ok (.putfield 24, 3) := by decide +kernel
theorem dX3_init_31 : decode cX3_init 31 = .ok (.iconst 0, 1) := by decide +kernel
theorem dX3_init_32 : decode cX3_init 32 = .ok (.istore_n 1, 1) := by decide +kernel
theorem dX3_init_33 : decode cX3_init 33 = .ok (.iload_n 1, 1) := by decide +kernel
theorem dX3_init_34 : decode cX3_init 34 = .ok (.bipush 8, 2) := by decide +kernel
theorem dX3_init_36 : decode cX3_init 36 = .ok (.if_icmp .ge 37, 3) := by decide +kernel
theorem dX3_init_39 : decode cX3_init 39 = .ok (.iconst 0, 1) := by decide +kernel
theorem dX3_init_40 : decode cX3_init 40 = .ok (.istore_n 2, 1) := by decide +kernel
theorem dX3_init_41 : decode cX3_init 41 = .ok (.iload_n 2, 1) := by decide +kernel
theorem dX3_init_42 : decode cX3_init 42 = .ok (.bipush 8, 2) := by decide +kernel
theorem dX3_init_44 : decode cX3_init 44 = .ok (.if_icmp .ge 23, 3) := by decide +kernel
theorem dX3_init_47 : decode cX3_init 47 = .ok (.aload_n 0, 1) := by decide +kernel
theorem dX3_init_48 : decode cX3_init 48 = .ok (.getfield 13, 3) := by decide +kernel
theorem dX3_init_51 : decode cX3_init 51 = .ok (.iload_n 1, 1) := by decide +kernel
theorem dX3_init_52 : decode cX3_init 52 = .ok (.aaload, 1) := by decide +kernel
theorem dX3_init_53 : decode cX3_init 53 = .ok (.iload_n 2, 1) := by decide +kernel
theorem dX3_init_54 : decode cX3_init 54 = .ok (.bipush 10, 2) := by decide +kernel
theorem dX3_init_56 : decode cX3_init 56 = .ok (.iload_n 1, 1) := by decide +kernel
theorem dX3_init_57 : decode cX3_init 57 = .ok (.imul, 1) := by decide +kernel
theorem dX3_init_58 : decode cX3_init 58 = .ok (.iload_n 2, 1) := by decide +kernel
theorem dX3_init_59 : decode cX3_init 59 = .ok (.iadd, 1) := by decide +kernel
theorem dX3_init_60 : decode cX3_init 60 = .ok (.iastore, 1) := by decide +kernel
theorem dX3_init_61 : decode cX3_init 61 = .ok (.iinc 2 1, 3) := by decide +kernel
theorem dX3_init_64 : decode cX3_init 64 = .ok (.goto (-23), 3) := by decide +kernel
theorem dX3_init_67 : decode cX3_init 67 = .ok (.iinc 1 1, 3) := by decide +kernel
theorem dX3_init_70 : decode cX3_init 70 = .ok (.goto (-37), 3) := by decide +kernel
theorem dX3_init_73 : decode cX3_init 73 = .ok (.return_, 1) := by decide +kernel
theorem dX3_renew_0 : decode cX3_renew 0 = .ok (.aload_n 0, 1) := by decide +kernel
theorem dX3_renew_1 : decode cX3_renew 1 = .ok (.iconst 1, 1) := by decide +kernel
theorem dX3_renew_2 : decode cX3_renew 2 = .ok (.putfield 16, 3) := by decide +kernel
theorem dX3_renew_5 : decode cX3_renew 5 = .ok (.aload_n 0, 1) := by decide +kernel
theorem dX3_renew_6 : decode cX3_renew 6 = .ok (.iload_n 1, 1) := by decide +kernel
theorem dX3_renew_7 : decode cX3_renew 7 = .ok (.putfield 20, 3) := by decide +kernel
theorem dX3_renew_10 : decode cX3_renew 10 = .ok (.aload_n 0, 1) := by decide +kernel
theorem dX3_renew_11 : decode cX3_renew 11 = .ok (.iload_n 2, 1) := by decide +kernel
theorem dX3_renew_12 : decode cX3_renew 12 = .ok (.putfield 24, 3) := by decide +kernel
theorem dX3_renew_15 : decode cX3_renew 15 = .ok (.return_, 1) := by decide +kernel
theorem dX3_isMade_0 : decode cX3_isMade 0 = .ok (.aload_n 0, 1) := by decide +kernel
theorem dX3_isMade_1 : decode cX3_isMade 1 = .ok (.getfield 16, 3) := by decide +kernel
theorem dX3_isMade_4 : decode cX3_isMade 4 = .ok (.ireturn, 1) := by decide +kernel
theorem dX3_rowCount_0 : decode cX3_rowCount 0 = .ok (.aload_n 0, 1) := by decide +kernel
theorem dX3_rowCount_1 : decode cX3_rowCount 1 = .ok (.getfield 20, 3) := by decide +kernel
theorem dX3_rowCount_4 : decode cX3_rowCount 4 = .ok (.ireturn, 1) := by decide +kernel
theorem dX3_columnCount_0 : decode cX3_columnCount 0 = .ok (.aload_n 0, 1) := by decide +kernel
theorem dX3_columnCount_1 : decode cX3_columnCount 1 = .ok (.getfield 24, 3) := by decide +kernel
theorem dX3_columnCount_4 : decode cX3_columnCount 4 = .ok (.ireturn, 1) := by decide +kernel
theorem dX3_numberAt_0 : decode cX3_numberAt 0 = .ok (.aload_n 0, 1) := by decide +kernel
theorem dX3_numberAt_1 : decode cX3_numberAt 1 = .ok (.getfield 13, 3) := by decide +kernel
theorem dX3_numberAt_4 : decode cX3_numberAt 4 = .ok (.iload_n 1, 1) := by decide +kernel
theorem dX3_numberAt_5 : decode cX3_numberAt 5 = .ok (.aaload, 1) := by decide +kernel
theorem dX3_numberAt_6 : decode cX3_numberAt 6 = .ok (.iload_n 2, 1) := by decide +kernel
theorem dX3_numberAt_7 : decode cX3_numberAt 7 = .ok (.iaload, 1) := by decide +kernel
theorem dX3_numberAt_8 : decode cX3_numberAt 8 = .ok (.ireturn, 1) := by decide +kernel
theorem dX4_init_0 : decode cX4_init 0 = .ok (.aload_n 0, 1) := by decide +kernel
theorem dX4_init_1 : decode cX4_init 1 = .ok (.invokespecial 3, 3) := by decide +kernel
theorem dX4_init_4 : decode cX4_init 4 = .ok (.aload_n 0, 1) := by decide +kernel
theorem dX4_init_5 : decode cX4_init 5 = .ok (.bipush 8, 2) := by decide +kernel
theorem dX4_init_7 : decode cX4_init 7 = .ok (.newarray .int, 2) := by decide +kernel
theorem dX4_init_9 : decode cX4_init 9 = .ok (.putfield 9, 3) := by decide +kernel
theorem dX4_init_12 : decode cX4_init 12 = .ok (.aload_n 0, 1) := by decide +kernel
theorem dX4_init_13 : decode cX4_init 13 = .ok (.bipush 39, 2) := by decide +kernel
theorem dX4_init_15 : decode cX4_init 15 = .ok (.newarray .int, 2) := by decide +kernel
theorem dX4_init_17 : decode cX4_init 17 = .ok (.putfield 15, 3) := by decide +kernel
theorem dX4_init_20 : decode cX4_init 20 = .ok (.aload_n 0, 1) := by decide +kernel
theorem dX4_init_21 : decode cX4_init 21 = .ok (.bipush 39, 2) := by decide +kernel
theorem dX4_init_23 : decode cX4_init 23 = .ok (.newarray .long, 2) := by decide +kernel
theorem dX4_init_25 : decode cX4_init 25 = .ok (.putfield 18, 3) := by decide +kernel
theorem dX4_init_28 : decode cX4_init 28 = .ok (.aload_n 0, 1) := by decide +kernel
theorem dX4_init_29 : decode cX4_init 29 = .ok (.bipush 39, 2) := by decide +kernel
theorem dX4_init_31 : decode cX4_init 31 = .ok (.newarray .short, 2) := by decide +kernel
theorem dX4_init_33 : decode cX4_init 33 = .ok (.putfield 22, 3) := by decide +kernel
theorem dX4_init_36 : decode cX4_init 36 = .ok (.aload_n 0, 1) := by decide +kernel
theorem dX4_init_37 : decode cX4_init 37 = .ok (.bipush 39, 2) := by decide +kernel
theorem dX4_init_39 : decode cX4_init 39 = .ok (.newarray .byte, 2) := by decide +kernel
theorem dX4_init_41 : decode cX4_init 41 = .ok (.putfield 26, 3) := by decide +kernel
theorem dX4_init_44 : decode cX4_init 44 = .ok (.aload_n 0, 1) := by decide +kernel
theorem dX4_init_45 : decode cX4_init 45 = .ok (.bipush 39, 2) := by decide +kernel
theorem dX4_init_47 : decode cX4_init 47 = .ok (.newarray .char, 2) := by decide +kernel
theorem dX4_init_49 : decode cX4_init 49 = .ok (.putfield 30, 3) := by decide +kernel
theorem dX4_init_52 : decode cX4_init 52 = .ok (.aload_n 0, 1) := by decide +kernel
theorem dX4_init_53 : decode cX4_init 53 = .ok (.bipush 39, 2) := by decide +kernel
theorem dX4_init_55 : decode cX4_init 55 = .ok (.newarray .boolean, 2) := by decide +kernel
theorem dX4_init_57 : decode cX4_init 57 = .ok (.putfield 34, 3) := by decide +kernel
theorem dX4_init_60 : decode cX4_init 60 = .ok (.aload_n 0, 1) := by decide +kernel
theorem dX4_init_61 : decode cX4_init 61 = .ok (.bipush 39, 2) := by decide +kernel
theorem dX4_init_63 : decode cX4_init 63 = .ok (.newarray .float, 2) := by decide +kernel
theorem dX4_init_65 : decode cX4_init 65 = .ok (.putfield 38, 3) := by decide +kernel
theorem dX4_init_68 : decode cX4_init 68 = .ok (.aload_n 0, 1) := by decide +kernel
theorem dX4_init_69 : decode cX4_init 69 = .ok (.bipush 39, 2) := by decide +kernel
theorem dX4_init_71 : decode cX4_init 71 = .ok (.newarray .double, 2) := by decide +kernel
theorem dX4_init_73 : decode cX4_init 73 = .ok (.putfield 42, 3) := by decide +kernel
theorem dX4_init_76 : decode cX4_init 76 = .ok (.iconst 0, 1) := by decide +kernel
theorem dX4_init_77 : decode cX4_init 77 = .ok (.istore_n 1, 1) := by decide +kernel
theorem dX4_init_78 : decode cX4_init 78 = .ok (.iload_n 1, 1) := by decide +kernel
theorem dX4_init_79 : decode cX4_init 79 = .ok (.bipush 8, 2) := by decide +kernel
theorem dX4_init_81 : decode cX4_init 81 = .ok (.if_icmp .ge 16, 3) := by decide +kernel
theorem dX4_init_84 : decode cX4_init 84 = .ok (.aload_n 0, 1) := by decide +kernel
theorem dX4_init_85 : decode cX4_init 85 = .ok (.getfield 9, 3) := by decide +kernel
theorem dX4_init_88 : decode cX4_init 88 = .ok (.iload_n 1, 1) := by decide +kernel
theorem dX4_init_89 : decode cX4_init 89 = .ok (.iconst 3, 1) := by decide +kernel
theorem dX4_init_90 : decode cX4_init 90 = .ok (.iastore, 1) := by decide +kernel
theorem dX4_init_91 : decode cX4_init 91 = .ok (.iinc 1 1, 3) := by decide +kernel
theorem dX4_init_94 : decode cX4_init 94 = .ok (.goto (-16), 3) := by decide +kernel
theorem dX4_init_97 : decode cX4_init 97 = .ok (.return_, 1) := by decide +kernel
theorem dX4_cellCount_0 : decode cX4_cellCount 0 = .ok (.aload_n 0, 1) := by decide +kernel
theorem dX4_cellCount_1 : decode cX4_cellCount 1 = .ok (.getfield 9, 3) := by decide +kernel
theorem dX4_cellCount_4 : decode cX4_cellCount 4 = .ok (.iload_n 1, 1) := by decide +kernel
theorem dX4_cellCount_5 : decode cX4_cellCount 5 = .ok (.iaload, 1) := by decide +kernel
theorem dX4_cellCount_6 : decode cX4_cellCount 6 = .ok (.ireturn, 1) := by decide +kernel
theorem dX4_renew_0 : decode cX4_renew 0 = .ok (.iconst 0, 1) := by decide +kernel
theorem dX4_renew_1 : decode cX4_renew 1 = .ok (.istore_n 3, 1) := by decide +kernel
theorem dX4_renew_2 : decode cX4_renew 2 = .ok (.iload_n 3, 1) := by decide +kernel
theorem dX4_renew_3 : decode cX4_renew 3 = .ok (.iload_n 2, 1) := by decide +kernel
theorem dX4_renew_4 : decode cX4_renew 4 = .ok (.if_icmp .ge 16, 3) := by decide +kernel
theorem dX4_renew_7 : decode cX4_renew 7 = .ok (.aload_n 0, 1) := by decide +kernel
theorem dX4_renew_8 : decode cX4_renew 8 = .ok (.iload_n 1, 1) := by decide +kernel
theorem dX4_renew_9 : decode cX4_renew 9 = .ok (.iload_n 3, 1) := by decide +kernel
theorem dX4_renew_10 : decode cX4_renew 10 = .ok (.iconst 0, 1) := by decide +kernel
theorem dX4_renew_11 : decode cX4_renew 11 = .ok (.invokevirtual 46, 3) := by decide +kernel
theorem dX4_renew_14 : decode cX4_renew 14 = .ok (.iinc 3 1, 3) := by decide +kernel
theorem dX4_renew_17 : decode cX4_renew 17 = .ok (.goto (-15), 3) := by decide +kernel
theorem dX4_renew_20 : decode cX4_renew 20 = .ok (.aload_n 0, 1) := by decide +kernel
theorem dX4_renew_21 : decode cX4_renew 21 = .ok (.getfield 9, 3) := by decide +kernel
theorem dX4_renew_24 : decode cX4_renew 24 = .ok (.iload_n 1, 1) := by decide +kernel
theorem dX4_renew_25 : decode cX4_renew 25 = .ok (.iload_n 2, 1) := by decide +kernel
theorem dX4_renew_26 : decode cX4_renew 26 = .ok (.iastore, 1) := by decide +kernel
theorem dX4_renew_27 : decode cX4_renew 27 = .ok (.return_, 1) := by decide +kernel
theorem dX4_numberAt_0 : decode cX4_numberAt 0 = .ok (.iload_n 1, 1) := by decide +kernel
theorem dX4_numberAt_1 : decode cX4_numberAt 1 = .ok (.tableswitch 119 0 6 #[43, 53, 62, 72, 82, 92, 109], 43) := by decide +kernel
theorem dX4_numberAt_44 : decode cX4_numberAt 44 = .ok (.aload_n 0, 1) := by decide +kernel
theorem dX4_numberAt_45 : decode cX4_numberAt 45 = .ok (.getfield 15, 3) := by decide +kernel
theorem dX4_numberAt_48 : decode cX4_numberAt 48 = .ok (.iload_n 2, 1) := by decide +kernel
theorem dX4_numberAt_49 : decode cX4_numberAt 49 = .ok (.iaload, 1) := by decide +kernel
theorem dX4_numberAt_50 : decode cX4_numberAt 50 = .ok (.i2l, 1) := by decide +kernel
theorem dX4_numberAt_51 : decode cX4_numberAt 51 = .ok (.goto 76, 3) := by decide +kernel
theorem dX4_numberAt_54 : decode cX4_numberAt 54 = .ok (.aload_n 0, 1) := by decide +kernel
theorem dX4_numberAt_55 : decode cX4_numberAt 55 = .ok (.getfield 18, 3) := by decide +kernel
theorem dX4_numberAt_58 : decode cX4_numberAt 58 = .ok (.iload_n 2, 1) := by decide +kernel
theorem dX4_numberAt_59 : decode cX4_numberAt 59 = .ok (.laload, 1) := by decide +kernel
theorem dX4_numberAt_60 : decode cX4_numberAt 60 = .ok (.goto 67, 3) := by decide +kernel
theorem dX4_numberAt_63 : decode cX4_numberAt 63 = .ok (.aload_n 0, 1) := by decide +kernel
theorem dX4_numberAt_64 : decode cX4_numberAt 64 = .ok (.getfield 22, 3) := by decide +kernel
theorem dX4_numberAt_67 : decode cX4_numberAt 67 = .ok (.iload_n 2, 1) := by decide +kernel
theorem dX4_numberAt_68 : decode cX4_numberAt 68 = .ok (.saload, 1) := by decide +kernel
theorem dX4_numberAt_69 : decode cX4_numberAt 69 = .ok (.i2l, 1) := by decide +kernel
theorem dX4_numberAt_70 : decode cX4_numberAt 70 = .ok (.goto 57, 3) := by decide +kernel
theorem dX4_numberAt_73 : decode cX4_numberAt 73 = .ok (.aload_n 0, 1) := by decide +kernel
theorem dX4_numberAt_74 : decode cX4_numberAt 74 = .ok (.getfield 26, 3) := by decide +kernel
theorem dX4_numberAt_77 : decode cX4_numberAt 77 = .ok (.iload_n 2, 1) := by decide +kernel
theorem dX4_numberAt_78 : decode cX4_numberAt 78 = .ok (.baload, 1) := by decide +kernel
theorem dX4_numberAt_79 : decode cX4_numberAt 79 = .ok (.i2l, 1) := by decide +kernel
theorem dX4_numberAt_80 : decode cX4_numberAt 80 = .ok (.goto 47, 3) := by decide +kernel
theorem dX4_numberAt_83 : decode cX4_numberAt 83 = .ok (.aload_n 0, 1) := by decide +kernel
theorem dX4_numberAt_84 : decode cX4_numberAt 84 = .ok (.getfield 30, 3) := by decide +kernel
theorem dX4_numberAt_87 : decode cX4_numberAt 87 = .ok (.iload_n 2, 1) := by decide +kernel
theorem dX4_numberAt_88 : decode cX4_numberAt 88 = .ok (.caload, 1) := by decide +kernel
theorem dX4_numberAt_89 : decode cX4_numberAt 89 = .ok (.i2l, 1) := by decide +kernel
theorem dX4_numberAt_90 : decode cX4_numberAt 90 = .ok (.goto 37, 3) := by decide +kernel
theorem dX4_numberAt_93 : decode cX4_numberAt 93 = .ok (.aload_n 0, 1) := by decide +kernel
theorem dX4_numberAt_94 : decode cX4_numberAt 94 = .ok (.getfield 34, 3) := by decide +kernel
theorem dX4_numberAt_97 : decode cX4_numberAt 97 = .ok (.iload_n 2, 1) := by decide +kernel
theorem dX4_numberAt_98 : decode cX4_numberAt 98 = .ok (.baload, 1) := by decide +kernel
theorem dX4_numberAt_99 : decode cX4_numberAt 99 = .ok (.ifCond .eq 7, 3) := by decide +kernel
theorem dX4_numberAt_102 : decode cX4_numberAt 102 = .ok (.lconst 1, 1) := by decide +kernel
theorem dX4_numberAt_103 : decode cX4_numberAt 103 = .ok (.goto 24, 3) := by decide +kernel
theorem dX4_numberAt_106 : decode cX4_numberAt 106 = .ok (.lconst 0, 1) := by decide +kernel
theorem dX4_numberAt_107 : decode cX4_numberAt 107 = .ok (.goto 20, 3) := by decide +kernel
theorem dX4_numberAt_110 : decode cX4_numberAt 110 = .ok (.aload_n 0, 1) := by decide +kernel
theorem dX4_numberAt_111 : decode cX4_numberAt 111 = .ok (.getfield 38, 3) := by decide +kernel
theorem dX4_numberAt_114 : decode cX4_numberAt 114 = .ok (.iload_n 2, 1) := by decide +kernel
theorem dX4_numberAt_115 : decode cX4_numberAt 115 = .ok (.faload, 1) := by decide +kernel
theorem dX4_numberAt_116 : decode cX4_numberAt 116 = .ok (.f2l, 1) := by decide +kernel
theorem dX4_numberAt_117 : decode cX4_numberAt 117 = .ok (.goto 10, 3) := by decide +kernel
theorem dX4_numberAt_120 : decode cX4_numberAt 120 = .ok (.aload_n 0, 1) := by decide +kernel
theorem dX4_numberAt_121 : decode cX4_numberAt 121 = .ok (.getfield 42, 3) := by decide +kernel
theorem dX4_numberAt_124 : decode cX4_numberAt 124 = .ok (.iload_n 2, 1) := by decide +kernel
theorem dX4_numberAt_125 : decode cX4_numberAt 125 = .ok (.daload, 1) := by decide +kernel
theorem dX4_numberAt_126 : decode cX4_numberAt 126 = .ok (.d2l, 1) := by decide +kernel
theorem dX4_numberAt_127 : decode cX4_numberAt 127 = .ok (.lreturn, 1) := by decide +kernel
theorem dX4_store_0 : decode cX4_store 0 = .ok (.iload_n 1, 1) := by decide +kernel
theorem dX4_store_1 : decode cX4_store 1 = .ok (.tableswitch 126 0 6 #[43, 53, 64, 75, 86, 97, 115], 43) := by decide +kernel
theorem dX4_store_44 : decode cX4_store 44 = .ok (.aload_n 0, 1) := by decide +kernel
theorem dX4_store_45 : decode cX4_store 45 = .ok (.getfield 15, 3) := by decide +kernel
theorem dX4_store_48 : decode cX4_store 48 = .ok (.iload_n 2, 1) := by decide +kernel
theorem dX4_store_49 : decode cX4_store 49 = .ok (.iload_n 3, 1) := by decide +kernel
theorem dX4_store_50 : decode cX4_store 50 = .ok (.iastore, 1) := by decide +kernel
theorem dX4_store_51 : decode cX4_store 51 = .ok (.goto 84, 3) := by decide +kernel
theorem dX4_store_54 : decode cX4_store 54 = .ok (.aload_n 0, 1) := by decide +kernel
theorem dX4_store_55 : decode cX4_store 55 = .ok (.getfield 18, 3) := by decide +kernel
theorem dX4_store_58 : decode cX4_store 58 = .ok (.iload_n 2, 1) := by decide +kernel
theorem dX4_store_59 : decode cX4_store 59 = .ok (.iload_n 3, 1) := by decide +kernel
theorem dX4_store_60 : decode cX4_store 60 = .ok (.i2l, 1) := by decide +kernel
theorem dX4_store_61 : decode cX4_store 61 = .ok (.lastore, 1) := by decide +kernel
theorem dX4_store_62 : decode cX4_store 62 = .ok (.goto 73, 3) := by decide +kernel
theorem dX4_store_65 : decode cX4_store 65 = .ok (.aload_n 0, 1) := by decide +kernel
theorem dX4_store_66 : decode cX4_store 66 = .ok (.getfield 22, 3) := by decide +kernel
theorem dX4_store_69 : decode cX4_store 69 = .ok (.iload_n 2, 1) := by decide +kernel
theorem dX4_store_70 : decode cX4_store 70 = .ok (.iload_n 3, 1) := by decide +kernel
theorem dX4_store_71 : decode cX4_store 71 = .ok (.i2s, 1) := by decide +kernel
theorem dX4_store_72 : decode cX4_store 72 = .ok (.sastore, 1) := by decide +kernel
theorem dX4_store_73 : decode cX4_store 73 = .ok (.goto 62, 3) := by decide +kernel
theorem dX4_store_76 : decode cX4_store 76 = .ok (.aload_n 0, 1) := by decide +kernel
theorem dX4_store_77 : decode cX4_store 77 = .ok (.getfield 26, 3) := by decide +kernel
theorem dX4_store_80 : decode cX4_store 80 = .ok (.iload_n 2, 1) := by decide +kernel
theorem dX4_store_81 : decode cX4_store 81 = .ok (.iload_n 3, 1) := by decide +kernel
theorem dX4_store_82 : decode cX4_store 82 = .ok (.i2b, 1) := by decide +kernel
theorem dX4_store_83 : decode cX4_store 83 = .ok (.bastore, 1) := by decide +kernel
theorem dX4_store_84 : decode cX4_store 84 = .ok (.goto 51, 3) := by decide +kernel
theorem dX4_store_87 : decode cX4_store 87 = .ok (.aload_n 0, 1) := by decide +kernel
theorem dX4_store_88 : decode cX4_store 88 = .ok (.getfield 30, 3) := by decide +kernel
theorem dX4_store_91 : decode cX4_store 91 = .ok (.iload_n 2, 1) := by decide +kernel
theorem dX4_store_92 : decode cX4_store 92 = .ok (.iload_n 3, 1) := by decide +kernel
theorem dX4_store_93 : decode cX4_store 93 = .ok (.i2c, 1) := by decide +kernel
theorem dX4_store_94 : decode cX4_store 94 = .ok (.castore, 1) := by decide +kernel
theorem dX4_store_95 : decode cX4_store 95 = .ok (.goto 40, 3) := by decide +kernel
theorem dX4_store_98 : decode cX4_store 98 = .ok (.aload_n 0, 1) := by decide +kernel
theorem dX4_store_99 : decode cX4_store 99 = .ok (.getfield 34, 3) := by decide +kernel
theorem dX4_store_102 : decode cX4_store 102 = .ok (.iload_n 2, 1) := by decide +kernel
theorem dX4_store_103 : decode cX4_store 103 = .ok (.iload_n 3, 1) := by decide +kernel
theorem dX4_store_104 : decode cX4_store 104 = .ok (.ifCond .eq 7, 3) := by decide +kernel
theorem dX4_store_107 : decode cX4_store 107 = .ok (.iconst 1, 1) := by decide +kernel
theorem dX4_store_108 : decode cX4_store 108 = .ok (.goto 4, 3) := by decide +kernel
theorem dX4_store_111 : decode cX4_store 111 = .ok (.iconst 0, 1) := by decide +kernel
theorem dX4_store_112 : decode cX4_store 112 = .ok (.bastore, 1) := by decide +kernel
theorem dX4_store_113 : decode cX4_store 113 = .ok (.goto 22, 3) := by decide +kernel
theorem dX4_store_116 : decode cX4_store 116 = .ok (.aload_n 0, 1) := by decide +kernel
theorem dX4_store_117 : decode cX4_store 117 = .ok (.getfield 38, 3) := by decide +kernel
theorem dX4_store_120 : decode cX4_store 120 = .ok (.iload_n 2, 1) := by decide +kernel
theorem dX4_store_121 : decode cX4_store 121 = .ok (.iload_n 3, 1) := by decide +kernel
theorem dX4_store_122 : decode cX4_store 122 = .ok (.i2f, 1) := by decide +kernel
theorem dX4_store_123 : decode cX4_store 123 = .ok (.fastore, 1) := by decide +kernel
theorem dX4_store_124 : decode cX4_store 124 = .ok (.goto 11, 3) := by decide +kernel
theorem dX4_store_127 : decode cX4_store 127 = .ok (.aload_n 0, 1) := by decide +kernel
theorem dX4_store_128 : decode cX4_store 128 = .ok (.getfield 42, 3) := by decide +kernel
theorem dX4_store_131 : decode cX4_store 131 = .ok (.iload_n 2, 1) := by decide +kernel
theorem dX4_store_132 : decode cX4_store 132 = .ok (.iload_n 3, 1) := by decide +kernel
theorem dX4_store_133 : decode cX4_store 133 = .ok (.i2d, 1) := by decide +kernel
theorem dX4_store_134 : decode cX4_store 134 = .ok (.dastore, 1) := by decide +kernel
theorem dX4_store_135 : decode cX4_store 135 = .ok (.return_, 1) := by decide +kernel
theorem dX5_init_0 : decode cX5_init 0 = .ok (.aload_n 0, 1) := by decide +kernel
theorem dX5_init_1 : decode cX5_init 1 = .ok (.invokespecial 1, 3) := by decide +kernel
theorem dX5_init_4 : decode cX5_init 4 = .ok (.aload_n 0, 1) := by decide +kernel
theorem dX5_init_5 : decode cX5_init 5 = .ok (.new 7, 3) := by decide +kernel
theorem dX5_init_8 : decode cX5_init 8 = .ok (.dup, 1) := by decide +kernel
theorem dX5_init_9 : decode cX5_init 9 = .ok (.invokespecial 9, 3) := by decide +kernel
theorem dX5_init_12 : decode cX5_init 12 = .ok (.putfield 10, 3) := by decide +kernel
theorem dX5_init_15 : decode cX5_init 15 = .ok (.aload_n 0, 1) := by decide +kernel
theorem dX5_init_16 : decode cX5_init 16 = .ok (.new 16, 3) := by decide +kernel
theorem dX5_init_19 : decode cX5_init 19 = .ok (.dup, 1) := by decide +kernel
theorem dX5_init_20 : decode cX5_init 20 = .ok (.invokespecial 18, 3) := by decide +kernel
theorem dX5_init_23 : decode cX5_init 23 = .ok (.putfield 19, 3) := by decide +kernel
theorem dX5_init_26 : decode cX5_init 26 = .ok (.aload_n 0, 1) := by decide +kernel
theorem dX5_init_27 : decode cX5_init 27 = .ok (.new 23, 3) := by decide +kernel
theorem dX5_init_30 : decode cX5_init 30 = .ok (.dup, 1) := by decide +kernel
theorem dX5_init_31 : decode cX5_init 31 = .ok (.invokespecial 25, 3) := by decide +kernel
theorem dX5_init_34 : decode cX5_init 34 = .ok (.putfield 26, 3) := by decide +kernel
theorem dX5_init_37 : decode cX5_init 37 = .ok (.aload_n 0, 1) := by decide +kernel
theorem dX5_init_38 : decode cX5_init 38 = .ok (.iconst 0, 1) := by decide +kernel
theorem dX5_init_39 : decode cX5_init 39 = .ok (.putfield 30, 3) := by decide +kernel
theorem dX5_init_42 : decode cX5_init 42 = .ok (.aload_n 0, 1) := by decide +kernel
theorem dX5_init_43 : decode cX5_init 43 = .ok (.iconst 0, 1) := by decide +kernel
theorem dX5_init_44 : decode cX5_init 44 = .ok (.putfield 34, 3) := by decide +kernel
theorem dX5_init_47 : decode cX5_init 47 = .ok (.return_, 1) := by decide +kernel
theorem dX5_read_0 : decode cX5_read 0 = .ok (.iload_n 1, 1) := by decide +kernel
theorem dX5_read_1 : decode cX5_read 1 = .ok (.invokestatic 37, 3) := by decide +kernel
theorem dX5_read_4 : decode cX5_read 4 = .ok (.istore 4, 2) := by decide +kernel
theorem dX5_read_6 : decode cX5_read 6 = .ok (.iload_n 2, 1) := by decide +kernel
theorem dX5_read_7 : decode cX5_read 7 = .ok (.invokestatic 41, 3) := by decide +kernel
theorem dX5_read_10 : decode cX5_read 10 = .ok (.iload_n 3, 1) := by decide +kernel
theorem dX5_read_11 : decode cX5_read 11 = .ok (.aload_n 0, 1) := by decide +kernel
theorem dX5_read_12 : decode cX5_read 12 = .ok (.getfield 10, 3) := by decide +kernel
theorem dX5_read_15 : decode cX5_read 15 = .ok (.iload 4, 2) := by decide +kernel
theorem dX5_read_17 : decode cX5_read 17 = .ok (.invokevirtual 45, 3) := by decide +kernel
theorem dX5_read_20 : decode cX5_read 20 = .ok (.invokestatic 48, 3) := by decide +kernel
theorem dX5_read_23 : decode cX5_read 23 = .ok (.aload_n 0, 1) := by decide +kernel
theorem dX5_read_24 : decode cX5_read 24 = .ok (.getfield 10, 3) := by decide +kernel
theorem dX5_read_27 : decode cX5_read 27 = .ok (.iload 4, 2) := by decide +kernel
theorem dX5_read_29 : decode cX5_read 29 = .ok (.iload_n 3, 1) := by decide +kernel
theorem dX5_read_30 : decode cX5_read 30 = .ok (.invokevirtual 52, 3) := by decide +kernel
theorem dX5_read_33 : decode cX5_read 33 = .ok (.lreturn, 1) := by decide +kernel
theorem dX5_write_0 : decode cX5_write 0 = .ok (.iload_n 1, 1) := by decide +kernel
theorem dX5_write_1 : decode cX5_write 1 = .ok (.invokestatic 37, 3) := by decide +kernel
theorem dX5_write_4 : decode cX5_write 4 = .ok (.istore 5, 2) := by decide +kernel
theorem dX5_write_6 : decode cX5_write 6 = .ok (.iload_n 2, 1) := by decide +kernel
theorem dX5_write_7 : decode cX5_write 7 = .ok (.invokestatic 41, 3) := by decide +kernel
theorem dX5_write_10 : decode cX5_write 10 = .ok (.iload_n 3, 1) := by decide +kernel
theorem dX5_write_11 : decode cX5_write 11 = .ok (.aload_n 0, 1) := by decide +kernel
theorem dX5_write_12 : decode cX5_write 12 = .ok (.getfield 10, 3) := by decide +kernel
theorem dX5_write_15 : decode cX5_write 15 = .ok (.iload 5, 2) := by decide +kernel
theorem dX5_write_17 : decode cX5_write 17 = .ok (.invokevirtual 45, 3) := by decide +kernel
theorem dX5_write_20 : decode cX5_write 20 = .ok (.invokestatic 48, 3) := by decide +kernel
theorem dX5_write_23 : decode cX5_write 23 = .ok (.aload_n 0, 1) := by decide +kernel
theorem dX5_write_24 : decode cX5_write 24 = .ok (.getfield 10, 3) := by decide +kernel
theorem dX5_write_27 : decode cX5_write 27 = .ok (.iload 5, 2) := by decide +kernel
theorem dX5_write_29 : decode cX5_write 29 = .ok (.iload_n 3, 1) := by decide +kernel
theorem dX5_write_30 : decode cX5_write 30 = .ok (.iload 4, 2) := by decide +kernel
theorem dX5_write_32 : decode cX5_write 32 = .ok (.invokevirtual 56, 3) := by decide +kernel
theorem dX5_write_35 : decode cX5_write 35 = .ok (.aload_n 0, 1) := by decide +kernel
theorem dX5_write_36 : decode cX5_write 36 = .ok (.dup, 1) := by decide +kernel
theorem dX5_write_37 : decode cX5_write 37 = .ok (.getfield 30, 3) := by decide +kernel
theorem dX5_write_40 : decode cX5_write 40 = .ok (.iconst 1, 1) := by decide +kernel
theorem dX5_write_41 : decode cX5_write 41 = .ok (.iadd, 1) := by decide +kernel
theorem dX5_write_42 : decode cX5_write 42 = .ok (.putfield 30, 3) := by decide +kernel
theorem dX5_write_45 : decode cX5_write 45 = .ok (.aload_n 0, 1) := by decide +kernel
theorem dX5_write_46 : decode cX5_write 46 = .ok (.getfield 30, 3) := by decide +kernel
theorem dX5_write_49 : decode cX5_write 49 = .ok (.ireturn, 1) := by decide +kernel
theorem dX5_length_0 : decode cX5_length 0 = .ok (.iload_n 2, 1) := by decide +kernel
theorem dX5_length_1 : decode cX5_length 1 = .ok (.invokestatic 41, 3) := by decide +kernel
theorem dX5_length_4 : decode cX5_length 4 = .ok (.aload_n 0, 1) := by decide +kernel
theorem dX5_length_5 : decode cX5_length 5 = .ok (.getfield 10, 3) := by decide +kernel
theorem dX5_length_8 : decode cX5_length 8 = .ok (.iload_n 1, 1) := by decide +kernel
theorem dX5_length_9 : decode cX5_length 9 = .ok (.invokestatic 37, 3) := by decide +kernel
theorem dX5_length_12 : decode cX5_length 12 = .ok (.invokevirtual 45, 3) := by decide +kernel
theorem dX5_length_15 : decode cX5_length 15 = .ok (.ireturn, 1) := by decide +kernel
theorem dX5_make_0 : decode cX5_make 0 = .ok (.iload_n 2, 1) := by decide +kernel
theorem dX5_make_1 : decode cX5_make 1 = .ok (.bipush 40, 2) := by decide +kernel
theorem dX5_make_3 : decode cX5_make 3 = .ok (.irem, 1) := by decide +kernel
theorem dX5_make_4 : decode cX5_make 4 = .ok (.istore_n 3, 1) := by decide +kernel
theorem dX5_make_5 : decode cX5_make 5 = .ok (.iload_n 3, 1) := by decide +kernel
theorem dX5_make_6 : decode cX5_make 6 = .ok (.invokestatic 60, 3) := by decide +kernel
theorem dX5_make_9 : decode cX5_make 9 = .ok (.aload_n 0, 1) := by decide +kernel
theorem dX5_make_10 : decode cX5_make 10 = .ok (.getfield 10, 3) := by decide +kernel
theorem dX5_make_13 : decode cX5_make 13 = .ok (.iload_n 1, 1) := by decide +kernel
theorem dX5_make_14 : decode cX5_make 14 = .ok (.invokestatic 37, 3) := by decide +kernel
theorem dX5_make_17 : decode cX5_make 17 = .ok (.iload_n 3, 1) := by decide +kernel
theorem dX5_make_18 : decode cX5_make 18 = .ok (.invokevirtual 64, 3) := by decide +kernel
theorem dX5_make_21 : decode cX5_make 21 = .ok (.iload_n 3, 1) := by decide +kernel
theorem dX5_make_22 : decode cX5_make 22 = .ok (.ireturn, 1) := by decide +kernel
theorem dX5_grid_0 : decode cX5_grid 0 = .ok (.iload_n 1, 1) := by decide +kernel
theorem dX5_grid_1 : decode cX5_grid 1 = .ok (.bipush 9, 2) := by decide +kernel
theorem dX5_grid_3 : decode cX5_grid 3 = .ok (.irem, 1) := by decide +kernel
theorem dX5_grid_4 : decode cX5_grid 4 = .ok (.istore_n 3, 1) := by decide +kernel
theorem dX5_grid_5 : decode cX5_grid 5 = .ok (.iload_n 2, 1) := by decide +kernel
theorem dX5_grid_6 : decode cX5_grid 6 = .ok (.bipush 9, 2) := by decide +kernel
theorem dX5_grid_8 : decode cX5_grid 8 = .ok (.irem, 1) := by decide +kernel
theorem dX5_grid_9 : decode cX5_grid 9 = .ok (.istore 4, 2) := by decide +kernel
theorem dX5_grid_11 : decode cX5_grid 11 = .ok (.iload_n 3, 1) := by decide +kernel
theorem dX5_grid_12 : decode cX5_grid 12 = .ok (.invokestatic 60, 3) := by decide +kernel
theorem dX5_grid_15 : decode cX5_grid 15 = .ok (.iload 4, 2) := by decide +kernel
theorem dX5_grid_17 : decode cX5_grid 17 = .ok (.invokestatic 60, 3) := by decide +kernel
theorem dX5_grid_20 : decode cX5_grid 20 = .ok (.aload_n 0, 1) := by decide +kernel
theorem dX5_grid_21 : decode cX5_grid 21 = .ok (.getfield 19, 3) := by decide +kernel
theorem dX5_grid_24 : decode cX5_grid 24 = .ok (.iload_n 3, 1) := by decide +kernel
theorem dX5_grid_25 : decode cX5_grid 25 = .ok (.iload 4, 2) := by decide +kernel
theorem dX5_grid_27 : decode cX5_grid 27 = .ok (.invokevirtual 67, 3) := by decide +kernel
theorem dX5_grid_30 : decode cX5_grid 30 = .ok (.iload_n 3, 1) := by decide +kernel
theorem dX5_grid_31 : decode cX5_grid 31 = .ok (.iload 4, 2) := by decide +kernel
theorem dX5_grid_33 : decode cX5_grid 33 = .ok (.imul, 1) := by decide +kernel
theorem dX5_grid_34 : decode cX5_grid 34 = .ok (.ireturn, 1) := by decide +kernel
theorem dX5_cell_0 : decode cX5_cell 0 = .ok (.aload_n 0, 1) := by decide +kernel
theorem dX5_cell_1 : decode cX5_cell 1 = .ok (.getfield 19, 3) := by decide +kernel
theorem dX5_cell_4 : decode cX5_cell 4 = .ok (.invokevirtual 68, 3) := by decide +kernel
theorem dX5_cell_7 : decode cX5_cell 7 = .ok (.invokestatic 41, 3) := by decide +kernel
theorem dX5_cell_10 : decode cX5_cell 10 = .ok (.iload_n 1, 1) := by decide +kernel
theorem dX5_cell_11 : decode cX5_cell 11 = .ok (.aload_n 0, 1) := by decide +kernel
theorem dX5_cell_12 : decode cX5_cell 12 = .ok (.getfield 19, 3) := by decide +kernel
theorem dX5_cell_15 : decode cX5_cell 15 = .ok (.invokevirtual 72, 3) := by decide +kernel
theorem dX5_cell_18 : decode cX5_cell 18 = .ok (.invokestatic 48, 3) := by decide +kernel
theorem dX5_cell_21 : decode cX5_cell 21 = .ok (.iload_n 2, 1) := by decide +kernel
theorem dX5_cell_22 : decode cX5_cell 22 = .ok (.aload_n 0, 1) := by decide +kernel
theorem dX5_cell_23 : decode cX5_cell 23 = .ok (.getfield 19, 3) := by decide +kernel
theorem dX5_cell_26 : decode cX5_cell 26 = .ok (.invokevirtual 76, 3) := by decide +kernel
theorem dX5_cell_29 : decode cX5_cell 29 = .ok (.invokestatic 48, 3) := by decide +kernel
theorem dX5_cell_32 : decode cX5_cell 32 = .ok (.aload_n 0, 1) := by decide +kernel
theorem dX5_cell_33 : decode cX5_cell 33 = .ok (.getfield 19, 3) := by decide +kernel
theorem dX5_cell_36 : decode cX5_cell 36 = .ok (.iload_n 1, 1) := by decide +kernel
theorem dX5_cell_37 : decode cX5_cell 37 = .ok (.iload_n 2, 1) := by decide +kernel
theorem dX5_cell_38 : decode cX5_cell 38 = .ok (.invokevirtual 79, 3) := by decide +kernel
theorem dX5_cell_41 : decode cX5_cell 41 = .ok (.ireturn, 1) := by decide +kernel
theorem dX5_boxes_0 : decode cX5_boxes 0 = .ok (.iload_n 1, 1) := by decide +kernel
theorem dX5_boxes_1 : decode cX5_boxes 1 = .ok (.bipush 20, 2) := by decide +kernel
theorem dX5_boxes_3 : decode cX5_boxes 3 = .ok (.irem, 1) := by decide +kernel
theorem dX5_boxes_4 : decode cX5_boxes 4 = .ok (.istore_n 3, 1) := by decide +kernel
theorem dX5_boxes_5 : decode cX5_boxes 5 = .ok (.iload_n 3, 1) := by decide +kernel
theorem dX5_boxes_6 : decode cX5_boxes 6 = .ok (.invokestatic 60, 3) := by decide +kernel
theorem dX5_boxes_9 : decode cX5_boxes 9 = .ok (.aload_n 0, 1) := by decide +kernel
theorem dX5_boxes_10 : decode cX5_boxes 10 = .ok (.getfield 26, 3) := by decide +kernel
theorem dX5_boxes_13 : decode cX5_boxes 13 = .ok (.iload_n 3, 1) := by decide +kernel
theorem dX5_boxes_14 : decode cX5_boxes 14 = .ok (.iload_n 2, 1) := by decide +kernel
theorem dX5_boxes_15 : decode cX5_boxes 15 = .ok (.invokevirtual 82, 3) := by decide +kernel
theorem dX5_boxes_18 : decode cX5_boxes 18 = .ok (.iload_n 3, 1) := by decide +kernel
theorem dX5_boxes_19 : decode cX5_boxes 19 = .ok (.ireturn, 1) := by decide +kernel
theorem dX5_put_0 : decode cX5_put 0 = .ok (.aload_n 0, 1) := by decide +kernel
theorem dX5_put_1 : decode cX5_put 1 = .ok (.getfield 26, 3) := by decide +kernel
theorem dX5_put_4 : decode cX5_put 4 = .ok (.invokevirtual 85, 3) := by decide +kernel
theorem dX5_put_7 : decode cX5_put 7 = .ok (.ifCond .eq 11, 3) := by decide +kernel
theorem dX5_put_10 : decode cX5_put 10 = .ok (.iload_n 1, 1) := by decide +kernel
theorem dX5_put_11 : decode cX5_put 11 = .ok (.ifCond .eq 7, 3) := by decide +kernel
theorem dX5_put_14 : decode cX5_put 14 = .ok (.iconst 1, 1) := by decide +kernel
theorem dX5_put_15 : decode cX5_put 15 = .ok (.goto 4, 3) := by decide +kernel
theorem dX5_put_18 : decode cX5_put 18 = .ok (.iconst 0, 1) := by decide +kernel
theorem dX5_put_19 : decode cX5_put 19 = .ok (.invokestatic 41, 3) := by decide +kernel
theorem dX5_put_22 : decode cX5_put 22 = .ok (.iload_n 2, 1) := by decide +kernel
theorem dX5_put_23 : decode cX5_put 23 = .ok (.aload_n 0, 1) := by decide +kernel
theorem dX5_put_24 : decode cX5_put 24 = .ok (.getfield 26, 3) := by decide +kernel
theorem dX5_put_27 : decode cX5_put 27 = .ok (.invokevirtual 86, 3) := by decide +kernel
theorem dX5_put_30 : decode cX5_put 30 = .ok (.invokestatic 48, 3) := by decide +kernel
theorem dX5_put_33 : decode cX5_put 33 = .ok (.iload_n 3, 1) := by decide +kernel
theorem dX5_put_34 : decode cX5_put 34 = .ok (.iload 4, 2) := by decide +kernel
theorem dX5_put_36 : decode cX5_put 36 = .ok (.invokestatic 89, 3) := by decide +kernel
theorem dX5_put_39 : decode cX5_put 39 = .ok (.astore 5, 2) := by decide +kernel
theorem dX5_put_41 : decode cX5_put 41 = .ok (.aload_n 0, 1) := by decide +kernel
theorem dX5_put_42 : decode cX5_put 42 = .ok (.getfield 26, 3) := by decide +kernel
theorem dX5_put_45 : decode cX5_put 45 = .ok (.aload 5, 2) := by decide +kernel
theorem dX5_put_47 : decode cX5_put 47 = .ok (.invokevirtual 93, 3) := by decide +kernel
theorem dX5_put_50 : decode cX5_put 50 = .ok (.ifCond .ne 13, 3) := by decide +kernel
theorem dX5_put_53 : decode cX5_put 53 = .ok (.new 97, 3) := by decide +kernel
theorem dX5_put_56 : decode cX5_put 56 = .ok (.dup, 1) := by decide +kernel
theorem dX5_put_57 : decode cX5_put 57 = .ok (.ldc 99, 2) := by decide +kernel
theorem dX5_put_59 : decode cX5_put 59 = .ok (.invokespecial 101, 3) := by decide +kernel
theorem dX5_put_62 : decode cX5_put 62 = .ok (.athrow, 1) := by decide +kernel
theorem dX5_put_63 : decode cX5_put 63 = .ok (.aload_n 0, 1) := by decide +kernel
theorem dX5_put_64 : decode cX5_put 64 = .ok (.getfield 26, 3) := by decide +kernel
theorem dX5_put_67 : decode cX5_put 67 = .ok (.iload_n 2, 1) := by decide +kernel
theorem dX5_put_68 : decode cX5_put 68 = .ok (.aload 5, 2) := by decide +kernel
theorem dX5_put_70 : decode cX5_put 70 = .ok (.invokevirtual 104, 3) := by decide +kernel
theorem dX5_put_73 : decode cX5_put 73 = .ok (.aload_n 0, 1) := by decide +kernel
theorem dX5_put_74 : decode cX5_put 74 = .ok (.dup, 1) := by decide +kernel
theorem dX5_put_75 : decode cX5_put 75 = .ok (.getfield 34, 3) := by decide +kernel
theorem dX5_put_78 : decode cX5_put 78 = .ok (.iconst 1, 1) := by decide +kernel
theorem dX5_put_79 : decode cX5_put 79 = .ok (.iadd, 1) := by decide +kernel
theorem dX5_put_80 : decode cX5_put 80 = .ok (.putfield 34, 3) := by decide +kernel
theorem dX5_put_83 : decode cX5_put 83 = .ok (.aload_n 0, 1) := by decide +kernel
theorem dX5_put_84 : decode cX5_put 84 = .ok (.getfield 34, 3) := by decide +kernel
theorem dX5_put_87 : decode cX5_put 87 = .ok (.ireturn, 1) := by decide +kernel
theorem dX5_value_0 : decode cX5_value 0 = .ok (.aload_n 0, 1) := by decide +kernel
theorem dX5_value_1 : decode cX5_value 1 = .ok (.iload_n 1, 1) := by decide +kernel
theorem dX5_value_2 : decode cX5_value 2 = .ok (.invokevirtual 107, 3) := by decide +kernel
theorem dX5_value_5 : decode cX5_value 5 = .ok (.getfield 111, 3) := by decide +kernel
theorem dX5_value_8 : decode cX5_value 8 = .ok (.ireturn, 1) := by decide +kernel
theorem dX5_change_0 : decode cX5_change 0 = .ok (.aload_n 0, 1) := by decide +kernel
theorem dX5_change_1 : decode cX5_change 1 = .ok (.iload_n 1, 1) := by decide +kernel
theorem dX5_change_2 : decode cX5_change 2 = .ok (.invokevirtual 107, 3) := by decide +kernel
theorem dX5_change_5 : decode cX5_change 5 = .ok (.astore_n 3, 1) := by decide +kernel
theorem dX5_change_6 : decode cX5_change 6 = .ok (.aload_n 3, 1) := by decide +kernel
theorem dX5_change_7 : decode cX5_change 7 = .ok (.getfield 111, 3) := by decide +kernel
theorem dX5_change_10 : decode cX5_change 10 = .ok (.istore 4, 2) := by decide +kernel
theorem dX5_change_12 : decode cX5_change 12 = .ok (.aload_n 3, 1) := by decide +kernel
theorem dX5_change_13 : decode cX5_change 13 = .ok (.iload_n 2, 1) := by decide +kernel
theorem dX5_change_14 : decode cX5_change 14 = .ok (.putfield 111, 3) := by decide +kernel
theorem dX5_change_17 : decode cX5_change 17 = .ok (.iload 4, 2) := by decide +kernel
theorem dX5_change_19 : decode cX5_change 19 = .ok (.ireturn, 1) := by decide +kernel
theorem dX5_weigh_0 : decode cX5_weigh 0 = .ok (.aload_n 0, 1) := by decide +kernel
theorem dX5_weigh_1 : decode cX5_weigh 1 = .ok (.iload_n 1, 1) := by decide +kernel
theorem dX5_weigh_2 : decode cX5_weigh 2 = .ok (.invokevirtual 107, 3) := by decide +kernel
theorem dX5_weigh_5 : decode cX5_weigh 5 = .ok (.iload_n 2, 1) := by decide +kernel
theorem dX5_weigh_6 : decode cX5_weigh 6 = .ok (.invokevirtual 116, 3) := by decide +kernel
theorem dX5_weigh_9 : decode cX5_weigh 9 = .ok (.ireturn, 1) := by decide +kernel
theorem dX5_roll_0 : decode cX5_roll 0 = .ok (.aload_n 0, 1) := by decide +kernel
theorem dX5_roll_1 : decode cX5_roll 1 = .ok (.iload_n 1, 1) := by decide +kernel
theorem dX5_roll_2 : decode cX5_roll 2 = .ok (.invokevirtual 107, 3) := by decide +kernel
theorem dX5_roll_5 : decode cX5_roll 5 = .ok (.astore_n 3, 1) := by decide +kernel
theorem dX5_roll_6 : decode cX5_roll 6 = .ok (.aload_n 3, 1) := by decide +kernel
theorem dX5_roll_7 : decode cX5_roll 7 = .ok (.instanceof 119, 3) := by decide +kernel
theorem dX5_roll_10 : decode cX5_roll 10 = .ok (.ifCond .eq 16, 3) := by decide +kernel
theorem dX5_roll_13 : decode cX5_roll 13 = .ok (.aload_n 3, 1) := by decide +kernel
theorem dX5_roll_14 : decode cX5_roll 14 = .ok (.checkcast 119, 3) := by decide +kernel
theorem dX5_roll_17 : decode cX5_roll 17 = .ok (.astore 4, 2) := by decide +kernel
theorem dX5_roll_19 : decode cX5_roll 19 = .ok (.aload 4, 2) := by decide +kernel
theorem dX5_roll_21 : decode cX5_roll 21 = .ok (.iload_n 2, 1) := by decide +kernel
theorem dX5_roll_22 : decode cX5_roll 22 = .ok (.invokevirtual 121, 3) := by decide +kernel
theorem dX5_roll_25 : decode cX5_roll 25 = .ok (.ireturn, 1) := by decide +kernel
theorem dX5_roll_26 : decode cX5_roll 26 = .ok (.new 124, 3) := by decide +kernel
theorem dX5_roll_29 : decode cX5_roll 29 = .ok (.dup, 1) := by decide +kernel
theorem dX5_roll_30 : decode cX5_roll 30 = .ok (.ldc 99, 2) := by decide +kernel
theorem dX5_roll_32 : decode cX5_roll 32 = .ok (.invokespecial 126, 3) := by decide +kernel
theorem dX5_roll_35 : decode cX5_roll 35 = .ok (.athrow, 1) := by decide +kernel
theorem dX5_divide_0 : decode cX5_divide 0 = .ok (.iload_n 2, 1) := by decide +kernel
theorem dX5_divide_1 : decode cX5_divide 1 = .ok (.i2l, 1) := by decide +kernel
theorem dX5_divide_2 : decode cX5_divide 2 = .ok (.invokestatic 127, 3) := by decide +kernel
theorem dX5_divide_5 : decode cX5_divide 5 = .ok (.iload_n 3, 1) := by decide +kernel
theorem dX5_divide_6 : decode cX5_divide 6 = .ok (.ifCond .eq 9, 3) := by decide +kernel
theorem dX5_divide_9 : decode cX5_divide 9 = .ok (.iload_n 1, 1) := by decide +kernel
theorem dX5_divide_10 : decode cX5_divide 10 = .ok (.iload_n 2, 1) := by decide +kernel
theorem dX5_divide_11 : decode cX5_divide 11 = .ok (.irem, 1) := by decide +kernel
theorem dX5_divide_12 : decode cX5_divide 12 = .ok (.goto 6, 3) := by decide +kernel
theorem dX5_divide_15 : decode cX5_divide 15 = .ok (.iload_n 1, 1) := by decide +kernel
theorem dX5_divide_16 : decode cX5_divide 16 = .ok (.iload_n 2, 1) := by decide +kernel
theorem dX5_divide_17 : decode cX5_divide 17 = .ok (.idiv, 1) := by decide +kernel
theorem dX5_divide_18 : decode cX5_divide 18 = .ok (.ireturn, 1) := by decide +kernel
theorem dX5_divideLong_0 : decode cX5_divideLong 0 = .ok (.lload_n 3, 1) := by decide +kernel
theorem dX5_divideLong_1 : decode cX5_divideLong 1 = .ok (.invokestatic 127, 3) := by decide +kernel
theorem dX5_divideLong_4 : decode cX5_divideLong 4 = .ok (.iload 5, 2) := by decide +kernel
theorem dX5_divideLong_6 : decode cX5_divideLong 6 = .ok (.ifCond .eq 9, 3) := by decide +kernel
theorem dX5_divideLong_9 : decode cX5_divideLong 9 = .ok (.lload_n 1, 1) := by decide +kernel
theorem dX5_divideLong_10 : decode cX5_divideLong 10 = .ok (.lload_n 3, 1) := by decide +kernel
theorem dX5_divideLong_11 : decode cX5_divideLong 11 = .ok (.lrem, 1) := by decide +kernel
theorem dX5_divideLong_12 : decode cX5_divideLong 12 = .ok (.goto 6, 3) := by decide +kernel
theorem dX5_divideLong_15 : decode cX5_divideLong 15 = .ok (.lload_n 1, 1) := by decide +kernel
theorem dX5_divideLong_16 : decode cX5_divideLong 16 = .ok (.lload_n 3, 1) := by decide +kernel
theorem dX5_divideLong_17 : decode cX5_divideLong 17 = .ok (.ldiv, 1) := by decide +kernel
theorem dX5_divideLong_18 : decode cX5_divideLong 18 = .ok (.lreturn, 1) := by decide +kernel
theorem dX5_raise_0 : decode cX5_raise 0 = .ok (.iload_n 1, 1) := by decide +kernel
theorem dX5_raise_1 : decode cX5_raise 1 = .ok (.invokestatic 41, 3) := by decide +kernel
theorem dX5_raise_4 : decode cX5_raise 4 = .ok (.new 131, 3) := by decide +kernel
theorem dX5_raise_7 : decode cX5_raise 7 = .ok (.dup, 1) := by decide +kernel
theorem dX5_raise_8 : decode cX5_raise 8 = .ok (.ldc 133, 2) := by decide +kernel
theorem dX5_raise_10 : decode cX5_raise 10 = .ok (.invokespecial 135, 3) := by decide +kernel
theorem dX5_raise_13 : decode cX5_raise 13 = .ok (.athrow, 1) := by decide +kernel
theorem dX5_kindOf_0 : decode cX5_kindOf 0 = .ok (.iload_n 0, 1) := by decide +kernel
theorem dX5_kindOf_1 : decode cX5_kindOf 1 = .ok (.bipush 7, 2) := by decide +kernel
theorem dX5_kindOf_3 : decode cX5_kindOf 3 = .ok (.iand, 1) := by decide +kernel
theorem dX5_kindOf_4 : decode cX5_kindOf 4 = .ok (.ireturn, 1) := by decide +kernel
theorem dX5_needThere_0 : decode cX5_needThere 0 = .ok (.iload_n 0, 1) := by decide +kernel
theorem dX5_needThere_1 : decode cX5_needThere 1 = .ok (.ifCond .ne 13, 3) := by decide +kernel
theorem dX5_needThere_4 : decode cX5_needThere 4 = .ok (.new 136, 3) := by decide +kernel
theorem dX5_needThere_7 : decode cX5_needThere 7 = .ok (.dup, 1) := by decide +kernel
theorem dX5_needThere_8 : decode cX5_needThere 8 = .ok (.ldc 138, 2) := by decide +kernel
theorem dX5_needThere_10 : decode cX5_needThere 10 = .ok (.invokespecial 140, 3) := by decide +kernel
theorem dX5_needThere_13 : decode cX5_needThere 13 = .ok (.athrow, 1) := by decide +kernel
theorem dX5_needThere_14 : decode cX5_needThere 14 = .ok (.return_, 1) := by decide +kernel
theorem dX5_needPlace_0 : decode cX5_needPlace 0 = .ok (.iload_n 0, 1) := by decide +kernel
theorem dX5_needPlace_1 : decode cX5_needPlace 1 = .ok (.ifCond .lt 8, 3) := by decide +kernel
theorem dX5_needPlace_4 : decode cX5_needPlace 4 = .ok (.iload_n 0, 1) := by decide +kernel
theorem dX5_needPlace_5 : decode cX5_needPlace 5 = .ok (.iload_n 1, 1) := by decide +kernel
theorem dX5_needPlace_6 : decode cX5_needPlace 6 = .ok (.if_icmp .lt 13, 3) := by decide +kernel
theorem dX5_needPlace_9 : decode cX5_needPlace 9 = .ok (.new 141, 3) := by decide +kernel
theorem dX5_needPlace_12 : decode cX5_needPlace 12 = .ok (.dup, 1) := by decide +kernel
theorem dX5_needPlace_13 : decode cX5_needPlace 13 = .ok (.ldc 143, 2) := by decide +kernel
theorem dX5_needPlace_15 : decode cX5_needPlace 15 = .ok (.invokespecial 145, 3) := by decide +kernel
theorem dX5_needPlace_18 : decode cX5_needPlace 18 = .ok (.athrow, 1) := by decide +kernel
theorem dX5_needPlace_19 : decode cX5_needPlace 19 = .ok (.return_, 1) := by decide +kernel
theorem dX5_needSize_0 : decode cX5_needSize 0 = .ok (.iload_n 0, 1) := by decide +kernel
theorem dX5_needSize_1 : decode cX5_needSize 1 = .ok (.ifCond .ge 13, 3) := by decide +kernel
theorem dX5_needSize_4 : decode cX5_needSize 4 = .ok (.new 146, 3) := by decide +kernel
theorem dX5_needSize_7 : decode cX5_needSize 7 = .ok (.dup, 1) := by decide +kernel
theorem dX5_needSize_8 : decode cX5_needSize 8 = .ok (.ldc 148, 2) := by decide +kernel
theorem dX5_needSize_10 : decode cX5_needSize 10 = .ok (.invokespecial 150, 3) := by decide +kernel
theorem dX5_needSize_13 : decode cX5_needSize 13 = .ok (.athrow, 1) := by decide +kernel
theorem dX5_needSize_14 : decode cX5_needSize 14 = .ok (.return_, 1) := by decide +kernel
theorem dX5_needDivisor_0 : decode cX5_needDivisor 0 = .ok (.lload_n 0, 1) := by decide +kernel
theorem dX5_needDivisor_1 : decode cX5_needDivisor 1 = .ok (.lconst 0, 1) := by decide +kernel
theorem dX5_needDivisor_2 : decode cX5_needDivisor 2 = .ok (.lcmp, 1) := by decide +kernel
theorem dX5_needDivisor_3 : decode cX5_needDivisor 3 = .ok (.ifCond .ne 13, 3) := by decide +kernel
theorem dX5_needDivisor_6 : decode cX5_needDivisor 6 = .ok (.new 131, 3) := by decide +kernel
theorem dX5_needDivisor_9 : decode cX5_needDivisor 9 = .ok (.dup, 1) := by decide +kernel
theorem dX5_needDivisor_10 : decode cX5_needDivisor 10 = .ok (.ldc 151, 2) := by decide +kernel
theorem dX5_needDivisor_12 : decode cX5_needDivisor 12 = .ok (.invokespecial 135, 3) := by decide +kernel
theorem dX5_needDivisor_15 : decode cX5_needDivisor 15 = .ok (.athrow, 1) := by decide +kernel
theorem dX5_needDivisor_16 : decode cX5_needDivisor 16 = .ok (.return_, 1) := by decide +kernel
theorem dX5_newBox_0 : decode cX5_newBox 0 = .ok (.iload_n 0, 1) := by decide +kernel
theorem dX5_newBox_1 : decode cX5_newBox 1 = .ok (.iconst 3, 1) := by decide +kernel
theorem dX5_newBox_2 : decode cX5_newBox 2 = .ok (.iand, 1) := by decide +kernel
theorem dX5_newBox_3 : decode cX5_newBox 3 = .ok (.lookupswitch 40 #[(0, 25), (1, 29)], 25) := by decide +kernel
theorem dX5_newBox_28 : decode cX5_newBox 28 = .ok (.aconst_null, 1) := by decide +kernel
theorem dX5_newBox_29 : decode cX5_newBox 29 = .ok (.goto 22, 3) := by decide +kernel
theorem dX5_newBox_32 : decode cX5_newBox 32 = .ok (.new 112, 3) := by decide +kernel
theorem dX5_newBox_35 : decode cX5_newBox 35 = .ok (.dup, 1) := by decide +kernel
theorem dX5_newBox_36 : decode cX5_newBox 36 = .ok (.iload_n 1, 1) := by decide +kernel
theorem dX5_newBox_37 : decode cX5_newBox 37 = .ok (.invokespecial 153, 3) := by decide +kernel
theorem dX5_newBox_40 : decode cX5_newBox 40 = .ok (.goto 11, 3) := by decide +kernel
theorem dX5_newBox_43 : decode cX5_newBox 43 = .ok (.new 119, 3) := by decide +kernel
theorem dX5_newBox_46 : decode cX5_newBox 46 = .ok (.dup, 1) := by decide +kernel
theorem dX5_newBox_47 : decode cX5_newBox 47 = .ok (.iload_n 1, 1) := by decide +kernel
theorem dX5_newBox_48 : decode cX5_newBox 48 = .ok (.invokespecial 155, 3) := by decide +kernel
theorem dX5_newBox_51 : decode cX5_newBox 51 = .ok (.areturn, 1) := by decide +kernel
theorem dX5_boxAt_0 : decode cX5_boxAt 0 = .ok (.aload_n 0, 1) := by decide +kernel
theorem dX5_boxAt_1 : decode cX5_boxAt 1 = .ok (.getfield 26, 3) := by decide +kernel
theorem dX5_boxAt_4 : decode cX5_boxAt 4 = .ok (.invokevirtual 85, 3) := by decide +kernel
theorem dX5_boxAt_7 : decode cX5_boxAt 7 = .ok (.invokestatic 41, 3) := by decide +kernel
theorem dX5_boxAt_10 : decode cX5_boxAt 10 = .ok (.iload_n 1, 1) := by decide +kernel
theorem dX5_boxAt_11 : decode cX5_boxAt 11 = .ok (.aload_n 0, 1) := by decide +kernel
theorem dX5_boxAt_12 : decode cX5_boxAt 12 = .ok (.getfield 26, 3) := by decide +kernel
theorem dX5_boxAt_15 : decode cX5_boxAt 15 = .ok (.invokevirtual 86, 3) := by decide +kernel
theorem dX5_boxAt_18 : decode cX5_boxAt 18 = .ok (.invokestatic 48, 3) := by decide +kernel
theorem dX5_boxAt_21 : decode cX5_boxAt 21 = .ok (.aload_n 0, 1) := by decide +kernel
theorem dX5_boxAt_22 : decode cX5_boxAt 22 = .ok (.getfield 26, 3) := by decide +kernel
theorem dX5_boxAt_25 : decode cX5_boxAt 25 = .ok (.iload_n 1, 1) := by decide +kernel
theorem dX5_boxAt_26 : decode cX5_boxAt 26 = .ok (.invokevirtual 156, 3) := by decide +kernel
theorem dX5_boxAt_29 : decode cX5_boxAt 29 = .ok (.astore_n 2, 1) := by decide +kernel
theorem dX5_boxAt_30 : decode cX5_boxAt 30 = .ok (.aload_n 2, 1) := by decide +kernel
theorem dX5_boxAt_31 : decode cX5_boxAt 31 = .ok (.ifnonnull 13, 3) := by decide +kernel
theorem dX5_boxAt_34 : decode cX5_boxAt 34 = .ok (.new 136, 3) := by decide +kernel
theorem dX5_boxAt_37 : decode cX5_boxAt 37 = .ok (.dup, 1) := by decide +kernel
theorem dX5_boxAt_38 : decode cX5_boxAt 38 = .ok (.ldc 159, 2) := by decide +kernel
theorem dX5_boxAt_40 : decode cX5_boxAt 40 = .ok (.invokespecial 140, 3) := by decide +kernel
theorem dX5_boxAt_43 : decode cX5_boxAt 43 = .ok (.athrow, 1) := by decide +kernel
theorem dX5_boxAt_44 : decode cX5_boxAt 44 = .ok (.aload_n 2, 1) := by decide +kernel
theorem dX5_boxAt_45 : decode cX5_boxAt 45 = .ok (.areturn, 1) := by decide +kernel
theorem dX6_init_0 : decode cX6_init 0 = .ok (.aload_n 0, 1) := by decide +kernel
theorem dX6_init_1 : decode cX6_init 1 = .ok (.invokespecial 1, 3) := by decide +kernel
theorem dX6_init_4 : decode cX6_init 4 = .ok (.aload_n 0, 1) := by decide +kernel
theorem dX6_init_5 : decode cX6_init 5 = .ok (.sipush 320, 3) := by decide +kernel
theorem dX6_init_8 : decode cX6_init 8 = .ok (.newarray .long, 2) := by decide +kernel
theorem dX6_init_10 : decode cX6_init 10 = .ok (.putfield 7, 3) := by decide +kernel
theorem dX6_init_13 : decode cX6_init 13 = .ok (.aload_n 0, 1) := by decide +kernel
theorem dX6_init_14 : decode cX6_init 14 = .ok (.bipush 8, 2) := by decide +kernel
theorem dX6_init_16 : decode cX6_init 16 = .ok (.newarray .int, 2) := by decide +kernel
theorem dX6_init_18 : decode cX6_init 18 = .ok (.putfield 13, 3) := by decide +kernel
theorem dX6_init_21 : decode cX6_init 21 = .ok (.aload_n 0, 1) := by decide +kernel
theorem dX6_init_22 : decode cX6_init 22 = .ok (.bipush 20, 2) := by decide +kernel
theorem dX6_init_24 : decode cX6_init 24 = .ok (.newarray .int, 2) := by decide +kernel
theorem dX6_init_26 : decode cX6_init 26 = .ok (.putfield 17, 3) := by decide +kernel
theorem dX6_init_29 : decode cX6_init 29 = .ok (.aload_n 0, 1) := by decide +kernel
theorem dX6_init_30 : decode cX6_init 30 = .ok (.bipush 20, 2) := by decide +kernel
theorem dX6_init_32 : decode cX6_init 32 = .ok (.newarray .int, 2) := by decide +kernel
theorem dX6_init_34 : decode cX6_init 34 = .ok (.putfield 20, 3) := by decide +kernel
theorem dX6_init_37 : decode cX6_init 37 = .ok (.iconst 0, 1) := by decide +kernel
theorem dX6_init_38 : decode cX6_init 38 = .ok (.istore_n 1, 1) := by decide +kernel
theorem dX6_init_39 : decode cX6_init 39 = .ok (.iload_n 1, 1) := by decide +kernel
theorem dX6_init_40 : decode cX6_init 40 = .ok (.bipush 8, 2) := by decide +kernel
theorem dX6_init_42 : decode cX6_init 42 = .ok (.if_icmp .ge 16, 3) := by decide +kernel
theorem dX6_init_45 : decode cX6_init 45 = .ok (.aload_n 0, 1) := by decide +kernel
theorem dX6_init_46 : decode cX6_init 46 = .ok (.getfield 13, 3) := by decide +kernel
theorem dX6_init_49 : decode cX6_init 49 = .ok (.iload_n 1, 1) := by decide +kernel
theorem dX6_init_50 : decode cX6_init 50 = .ok (.iconst 3, 1) := by decide +kernel
theorem dX6_init_51 : decode cX6_init 51 = .ok (.iastore, 1) := by decide +kernel
theorem dX6_init_52 : decode cX6_init 52 = .ok (.iinc 1 1, 3) := by decide +kernel
theorem dX6_init_55 : decode cX6_init 55 = .ok (.goto (-16), 3) := by decide +kernel
theorem dX6_init_58 : decode cX6_init 58 = .ok (.return_, 1) := by decide +kernel
theorem dX6_thrown_0 : decode cX6_thrown 0 = .ok (.aload_n 0, 1) := by decide +kernel
theorem dX6_thrown_1 : decode cX6_thrown 1 = .ok (.getfield 23, 3) := by decide +kernel
theorem dX6_thrown_4 : decode cX6_thrown 4 = .ok (.ireturn, 1) := by decide +kernel
theorem dX6_fails_0 : decode cX6_fails 0 = .ok (.aload_n 0, 1) := by decide +kernel
theorem dX6_fails_1 : decode cX6_fails 1 = .ok (.iload_n 1, 1) := by decide +kernel
theorem dX6_fails_2 : decode cX6_fails 2 = .ok (.putfield 23, 3) := by decide +kernel
theorem dX6_fails_5 : decode cX6_fails 5 = .ok (.iconst 0, 1) := by decide +kernel
theorem dX6_fails_6 : decode cX6_fails 6 = .ok (.ireturn, 1) := by decide +kernel
theorem dX6_nearest_0 : decode cX6_nearest 0 = .ok (.iload_n 0, 1) := by decide +kernel
theorem dX6_nearest_1 : decode cX6_nearest 1 = .ok (.ifCond .ge 9, 3) := by decide +kernel
theorem dX6_nearest_4 : decode cX6_nearest 4 = .ok (.iload_n 0, 1) := by decide +kernel
theorem dX6_nearest_5 : decode cX6_nearest 5 = .ok (.i2l, 1) := by decide +kernel
theorem dX6_nearest_6 : decode cX6_nearest 6 = .ok (.lneg, 1) := by decide +kernel
theorem dX6_nearest_7 : decode cX6_nearest 7 = .ok (.goto 5, 3) := by decide +kernel
theorem dX6_nearest_10 : decode cX6_nearest 10 = .ok (.iload_n 0, 1) := by decide +kernel
theorem dX6_nearest_11 : decode cX6_nearest 11 = .ok (.i2l, 1) := by decide +kernel
theorem dX6_nearest_12 : decode cX6_nearest 12 = .ok (.lstore_n 1, 1) := by decide +kernel
theorem dX6_nearest_13 : decode cX6_nearest 13 = .ok (.lload_n 1, 1) := by decide +kernel
theorem dX6_nearest_14 : decode cX6_nearest 14 = .ok (.lstore_n 3, 1) := by decide +kernel
theorem dX6_nearest_15 : decode cX6_nearest 15 = .ok (.iconst 0, 1) := by decide +kernel
theorem dX6_nearest_16 : decode cX6_nearest 16 = .ok (.istore 5, 2) := by decide +kernel
theorem dX6_nearest_18 : decode cX6_nearest 18 = .ok (.lload_n 3, 1) := by decide +kernel
theorem dX6_nearest_19 : decode cX6_nearest 19 = .ok (.ldc2_w 27, 3) := by decide +kernel
theorem dX6_nearest_22 : decode cX6_nearest 22 = .ok (.lcmp, 1) := by decide +kernel
theorem dX6_nearest_23 : decode cX6_nearest 23 = .ok (.ifCond .lt 13, 3) := by decide +kernel
theorem dX6_nearest_26 : decode cX6_nearest 26 = .ok (.lload_n 3, 1) := by decide +kernel
theorem dX6_nearest_27 : decode cX6_nearest 27 = .ok (.iconst 1, 1) := by decide +kernel
theorem dX6_nearest_28 : decode cX6_nearest 28 = .ok (.lshr, 1) := by decide +kernel
theorem dX6_nearest_29 : decode cX6_nearest 29 = .ok (.lstore_n 3, 1) := by decide +kernel
theorem dX6_nearest_30 : decode cX6_nearest 30 = .ok (.iinc 5 1, 3) := by decide +kernel
theorem dX6_nearest_33 : decode cX6_nearest 33 = .ok (.goto (-15), 3) := by decide +kernel
theorem dX6_nearest_36 : decode cX6_nearest 36 = .ok (.iload 5, 2) := by decide +kernel
theorem dX6_nearest_38 : decode cX6_nearest 38 = .ok (.ifCond .le 47, 3) := by decide +kernel
theorem dX6_nearest_41 : decode cX6_nearest 41 = .ok (.lload_n 1, 1) := by decide +kernel
theorem dX6_nearest_42 : decode cX6_nearest 42 = .ok (.lload_n 3, 1) := by decide +kernel
theorem dX6_nearest_43 : decode cX6_nearest 43 = .ok (.iload 5, 2) := by decide +kernel
theorem dX6_nearest_45 : decode cX6_nearest 45 = .ok (.lshl, 1) := by decide +kernel
theorem dX6_nearest_46 : decode cX6_nearest 46 = .ok (.lsub, 1) := by decide +kernel
theorem dX6_nearest_47 : decode cX6_nearest 47 = .ok (.lstore 6, 2) := by decide +kernel
theorem dX6_nearest_49 : decode cX6_nearest 49 = .ok (.lconst 1, 1) := by decide +kernel
theorem dX6_nearest_50 : decode cX6_nearest 50 = .ok (.iload 5, 2) := by decide +kernel
theorem dX6_nearest_52 : decode cX6_nearest 52 = .ok (.iconst 1, 1) := by decide +kernel
theorem dX6_nearest_53 : decode cX6_nearest 53 = .ok (.isub, 1) := by decide +kernel
theorem dX6_nearest_54 : decode cX6_nearest 54 = .ok (.lshl, 1) := by decide +kernel
theorem dX6_nearest_55 : decode cX6_nearest 55 = .ok (.lstore 8, 2) := by decide +kernel
theorem dX6_nearest_57 : decode cX6_nearest 57 = .ok (.lload 6, 2) := by decide +kernel
theorem dX6_nearest_59 : decode cX6_nearest 59 = .ok (.lload 8, 2) := by decide +kernel
theorem dX6_nearest_61 : decode cX6_nearest 61 = .ok (.lcmp, 1) := by decide +kernel
theorem dX6_nearest_62 : decode cX6_nearest 62 = .ok (.ifCond .gt 19, 3) := by decide +kernel
theorem dX6_nearest_65 : decode cX6_nearest 65 = .ok (.lload 6, 2) := by decide +kernel
theorem dX6_nearest_67 : decode cX6_nearest 67 = .ok (.lload 8, 2) := by decide +kernel
theorem dX6_nearest_69 : decode cX6_nearest 69 = .ok (.lcmp, 1) := by decide +kernel
theorem dX6_nearest_70 : decode cX6_nearest 70 = .ok (.ifCond .ne 15, 3) := by decide +kernel
theorem dX6_nearest_73 : decode cX6_nearest 73 = .ok (.lload_n 3, 1) := by decide +kernel
theorem dX6_nearest_74 : decode cX6_nearest 74 = .ok (.lconst 1, 1) := by decide +kernel
theorem dX6_nearest_75 : decode cX6_nearest 75 = .ok (.land, 1) := by decide +kernel
theorem dX6_nearest_76 : decode cX6_nearest 76 = .ok (.lconst 1, 1) := by decide +kernel
theorem dX6_nearest_77 : decode cX6_nearest 77 = .ok (.lcmp, 1) := by decide +kernel
theorem dX6_nearest_78 : decode cX6_nearest 78 = .ok (.ifCond .ne 7, 3) := by decide +kernel
theorem dX6_nearest_81 : decode cX6_nearest 81 = .ok (.lload_n 3, 1) := by decide +kernel
theorem dX6_nearest_82 : decode cX6_nearest 82 = .ok (.lconst 1, 1) := by decide +kernel
theorem dX6_nearest_83 : decode cX6_nearest 83 = .ok (.ladd, 1) := by decide +kernel
theorem dX6_nearest_84 : decode cX6_nearest 84 = .ok (.lstore_n 3, 1) := by decide +kernel
theorem dX6_nearest_85 : decode cX6_nearest 85 = .ok (.lload_n 3, 1) := by decide +kernel
theorem dX6_nearest_86 : decode cX6_nearest 86 = .ok (.iload 5, 2) := by decide +kernel
theorem dX6_nearest_88 : decode cX6_nearest 88 = .ok (.lshl, 1) := by decide +kernel
theorem dX6_nearest_89 : decode cX6_nearest 89 = .ok (.lstore_n 1, 1) := by decide +kernel
theorem dX6_nearest_90 : decode cX6_nearest 90 = .ok (.iload_n 0, 1) := by decide +kernel
theorem dX6_nearest_91 : decode cX6_nearest 91 = .ok (.ifCond .ge 8, 3) := by decide +kernel
theorem dX6_nearest_94 : decode cX6_nearest 94 = .ok (.lload_n 1, 1) := by decide +kernel
theorem dX6_nearest_95 : decode cX6_nearest 95 = .ok (.lneg, 1) := by decide +kernel
theorem dX6_nearest_96 : decode cX6_nearest 96 = .ok (.goto 4, 3) := by decide +kernel
theorem dX6_nearest_99 : decode cX6_nearest 99 = .ok (.lload_n 1, 1) := by decide +kernel
theorem dX6_nearest_100 : decode cX6_nearest 100 = .ok (.lreturn, 1) := by decide +kernel
theorem dX6_kept_0 : decode cX6_kept 0 = .ok (.iload_n 0, 1) := by decide +kernel
theorem dX6_kept_1 : decode cX6_kept 1 = .ok (.tableswitch 103 2 6 #[35, 57, 82, 88, 98], 35) := by decide +kernel
theorem dX6_kept_36 : decode cX6_kept 36 = .ok (.iload_n 1, 1) := by decide +kernel
theorem dX6_kept_37 : decode cX6_kept 37 = .ok (.ldc 29, 2) := by decide +kernel
theorem dX6_kept_39 : decode cX6_kept 39 = .ok (.iand, 1) := by decide +kernel
theorem dX6_kept_40 : decode cX6_kept 40 = .ok (.istore_n 2, 1) := by decide +kernel
theorem dX6_kept_41 : decode cX6_kept 41 = .ok (.iload_n 2, 1) := by decide +kernel
theorem dX6_kept_42 : decode cX6_kept 42 = .ok (.ldc 30, 2) := by decide +kernel
theorem dX6_kept_44 : decode cX6_kept 44 = .ok (.if_icmp .ge 8, 3) := by decide +kernel
theorem dX6_kept_47 : decode cX6_kept 47 = .ok (.iload_n 2, 1) := by decide +kernel
theorem dX6_kept_48 : decode cX6_kept 48 = .ok (.i2l, 1) := by decide +kernel
theorem dX6_kept_49 : decode cX6_kept 49 = .ok (.goto 8, 3) := by decide +kernel
theorem dX6_kept_52 : decode cX6_kept 52 = .ok (.iload_n 2, 1) := by decide +kernel
theorem dX6_kept_53 : decode cX6_kept 53 = .ok (.ldc 31, 2) := by decide +kernel
theorem dX6_kept_55 : decode cX6_kept 55 = .ok (.isub, 1) := by decide +kernel
theorem dX6_kept_56 : decode cX6_kept 56 = .ok (.i2l, 1) := by decide +kernel
theorem dX6_kept_57 : decode cX6_kept 57 = .ok (.lreturn, 1) := by decide +kernel
theorem dX6_kept_58 : decode cX6_kept 58 = .ok (.iload_n 1, 1) := by decide +kernel
theorem dX6_kept_59 : decode cX6_kept 59 = .ok (.sipush 255, 3) := by decide +kernel
theorem dX6_kept_62 : decode cX6_kept 62 = .ok (.iand, 1) := by decide +kernel
theorem dX6_kept_63 : decode cX6_kept 63 = .ok (.istore_n 2, 1) := by decide +kernel
theorem dX6_kept_64 : decode cX6_kept 64 = .ok (.iload_n 2, 1) := by decide +kernel
theorem dX6_kept_65 : decode cX6_kept 65 = .ok (.sipush 128, 3) := by decide +kernel
theorem dX6_kept_68 : decode cX6_kept 68 = .ok (.if_icmp .ge 8, 3) := by decide +kernel
theorem dX6_kept_71 : decode cX6_kept 71 = .ok (.iload_n 2, 1) := by decide +kernel
theorem dX6_kept_72 : decode cX6_kept 72 = .ok (.i2l, 1) := by decide +kernel
theorem dX6_kept_73 : decode cX6_kept 73 = .ok (.goto 9, 3) := by decide +kernel
theorem dX6_kept_76 : decode cX6_kept 76 = .ok (.iload_n 2, 1) := by decide +kernel
theorem dX6_kept_77 : decode cX6_kept 77 = .ok (.sipush 256, 3) := by decide +kernel
theorem dX6_kept_80 : decode cX6_kept 80 = .ok (.isub, 1) := by decide +kernel
theorem dX6_kept_81 : decode cX6_kept 81 = .ok (.i2l, 1) := by decide +kernel
theorem dX6_kept_82 : decode cX6_kept 82 = .ok (.lreturn, 1) := by decide +kernel
theorem dX6_kept_83 : decode cX6_kept 83 = .ok (.iload_n 1, 1) := by decide +kernel
theorem dX6_kept_84 : decode cX6_kept 84 = .ok (.ldc 29, 2) := by decide +kernel
theorem dX6_kept_86 : decode cX6_kept 86 = .ok (.iand, 1) := by decide +kernel
theorem dX6_kept_87 : decode cX6_kept 87 = .ok (.i2l, 1) := by decide +kernel
theorem dX6_kept_88 : decode cX6_kept 88 = .ok (.lreturn, 1) := by decide +kernel
theorem dX6_kept_89 : decode cX6_kept 89 = .ok (.iload_n 1, 1) := by decide +kernel
theorem dX6_kept_90 : decode cX6_kept 90 = .ok (.ifCond .eq 7, 3) := by decide +kernel
theorem dX6_kept_93 : decode cX6_kept 93 = .ok (.lconst 1, 1) := by decide +kernel
theorem dX6_kept_94 : decode cX6_kept 94 = .ok (.goto 4, 3) := by decide +kernel
theorem dX6_kept_97 : decode cX6_kept 97 = .ok (.lconst 0, 1) := by decide +kernel
theorem dX6_kept_98 : decode cX6_kept 98 = .ok (.lreturn, 1) := by decide +kernel
theorem dX6_kept_99 : decode cX6_kept 99 = .ok (.iload_n 1, 1) := by decide +kernel
theorem dX6_kept_100 : decode cX6_kept 100 = .ok (.invokestatic 32, 3) := by decide +kernel
theorem dX6_kept_103 : decode cX6_kept 103 = .ok (.lreturn, 1) := by decide +kernel
theorem dX6_kept_104 : decode cX6_kept 104 = .ok (.iload_n 1, 1) := by decide +kernel
theorem dX6_kept_105 : decode cX6_kept 105 = .ok (.i2l, 1) := by decide +kernel
theorem dX6_kept_106 : decode cX6_kept 106 = .ok (.lreturn, 1) := by decide +kernel
theorem dX6_read_0 : decode cX6_read 0 = .ok (.aload_n 0, 1) := by decide +kernel
theorem dX6_read_1 : decode cX6_read 1 = .ok (.iconst 0, 1) := by decide +kernel
theorem dX6_read_2 : decode cX6_read 2 = .ok (.putfield 23, 3) := by decide +kernel
theorem dX6_read_5 : decode cX6_read 5 = .ok (.iload_n 1, 1) := by decide +kernel
theorem dX6_read_6 : decode cX6_read 6 = .ok (.bipush 7, 2) := by decide +kernel
theorem dX6_read_8 : decode cX6_read 8 = .ok (.iand, 1) := by decide +kernel
theorem dX6_read_9 : decode cX6_read 9 = .ok (.istore 4, 2) := by decide +kernel
theorem dX6_read_11 : decode cX6_read 11 = .ok (.iload_n 2, 1) := by decide +kernel
theorem dX6_read_12 : decode cX6_read 12 = .ok (.ifCond .ne 10, 3) := by decide +kernel
theorem dX6_read_15 : decode cX6_read 15 = .ok (.aload_n 0, 1) := by decide +kernel
theorem dX6_read_16 : decode cX6_read 16 = .ok (.iconst 1, 1) := by decide +kernel
theorem dX6_read_17 : decode cX6_read 17 = .ok (.invokevirtual 36, 3) := by decide +kernel
theorem dX6_read_20 : decode cX6_read 20 = .ok (.i2l, 1) := by decide +kernel
theorem dX6_read_21 : decode cX6_read 21 = .ok (.lreturn, 1) := by decide +kernel
theorem dX6_read_22 : decode cX6_read 22 = .ok (.iload_n 3, 1) := by decide +kernel
theorem dX6_read_23 : decode cX6_read 23 = .ok (.ifCond .lt 14, 3) := by decide +kernel
theorem dX6_read_26 : decode cX6_read 26 = .ok (.iload_n 3, 1) := by decide +kernel
theorem dX6_read_27 : decode cX6_read 27 = .ok (.aload_n 0, 1) := by decide +kernel
theorem dX6_read_28 : decode cX6_read 28 = .ok (.getfield 13, 3) := by decide +kernel
theorem dX6_read_31 : decode cX6_read 31 = .ok (.iload 4, 2) := by decide +kernel
theorem dX6_read_33 : decode cX6_read 33 = .ok (.iaload, 1) := by decide +kernel
theorem dX6_read_34 : decode cX6_read 34 = .ok (.if_icmp .lt 10, 3) := by decide +kernel
theorem dX6_read_37 : decode cX6_read 37 = .ok (.aload_n 0, 1) := by decide +kernel
theorem dX6_read_38 : decode cX6_read 38 = .ok (.iconst 2, 1) := by decide +kernel
theorem dX6_read_39 : decode cX6_read 39 = .ok (.invokevirtual 36, 3) := by decide +kernel
theorem dX6_read_42 : decode cX6_read 42 = .ok (.i2l, 1) := by decide +kernel
theorem dX6_read_43 : decode cX6_read 43 = .ok (.lreturn, 1) := by decide +kernel
theorem dX6_read_44 : decode cX6_read 44 = .ok (.aload_n 0, 1) := by decide +kernel
theorem dX6_read_45 : decode cX6_read 45 = .ok (.getfield 7, 3) := by decide +kernel
theorem dX6_read_48 : decode cX6_read 48 = .ok (.bipush 40, 2) := by decide +kernel
theorem dX6_read_50 : decode cX6_read 50 = .ok (.iload 4, 2) := by decide +kernel
theorem dX6_read_52 : decode cX6_read 52 = .ok (.imul, 1) := by decide +kernel
theorem dX6_read_53 : decode cX6_read 53 = .ok (.iload_n 3, 1) := by decide +kernel
theorem dX6_read_54 : decode cX6_read 54 = .ok (.iadd, 1) := by decide +kernel
theorem dX6_read_55 : decode cX6_read 55 = .ok (.laload, 1) := by decide +kernel
theorem dX6_read_56 : decode cX6_read 56 = .ok (.lreturn, 1) := by decide +kernel
theorem dX6_write_0 : decode cX6_write 0 = .ok (.aload_n 0, 1) := by decide +kernel
theorem dX6_write_1 : decode cX6_write 1 = .ok (.iconst 0, 1) := by decide +kernel
theorem dX6_write_2 : decode cX6_write 2 = .ok (.putfield 23, 3) := by decide +kernel
theorem dX6_write_5 : decode cX6_write 5 = .ok (.iload_n 1, 1) := by decide +kernel
theorem dX6_write_6 : decode cX6_write 6 = .ok (.bipush 7, 2) := by decide +kernel
theorem dX6_write_8 : decode cX6_write 8 = .ok (.iand, 1) := by decide +kernel
theorem dX6_write_9 : decode cX6_write 9 = .ok (.istore 5, 2) := by decide +kernel
theorem dX6_write_11 : decode cX6_write 11 = .ok (.iload_n 2, 1) := by decide +kernel
theorem dX6_write_12 : decode cX6_write 12 = .ok (.ifCond .ne 9, 3) := by decide +kernel
theorem dX6_write_15 : decode cX6_write 15 = .ok (.aload_n 0, 1) := by decide +kernel
theorem dX6_write_16 : decode cX6_write 16 = .ok (.iconst 1, 1) := by decide +kernel
theorem dX6_write_17 : decode cX6_write 17 = .ok (.invokevirtual 36, 3) := by decide +kernel
theorem dX6_write_20 : decode cX6_write 20 = .ok (.ireturn, 1) := by decide +kernel
theorem dX6_write_21 : decode cX6_write 21 = .ok (.iload_n 3, 1) := by decide +kernel
theorem dX6_write_22 : decode cX6_write 22 = .ok (.ifCond .lt 14, 3) := by decide +kernel
theorem dX6_write_25 : decode cX6_write 25 = .ok (.iload_n 3, 1) := by decide +kernel
theorem dX6_write_26 : decode cX6_write 26 = .ok (.aload_n 0, 1) := by decide +kernel
theorem dX6_write_27 : decode cX6_write 27 = .ok (.getfield 13, 3) := by decide +kernel
theorem dX6_write_30 : decode cX6_write 30 = .ok (.iload 5, 2) := by decide +kernel
theorem dX6_write_32 : decode cX6_write 32 = .ok (.iaload, 1) := by decide +kernel
theorem dX6_write_33 : decode cX6_write 33 = .ok (.if_icmp .lt 9, 3) := by decide +kernel
theorem dX6_write_36 : decode cX6_write 36 = .ok (.aload_n 0, 1) := by decide +kernel
theorem dX6_write_37 : decode cX6_write 37 = .ok (.iconst 2, 1) := by decide +kernel
theorem dX6_write_38 : decode cX6_write 38 = .ok (.invokevirtual 36, 3) := by decide +kernel
theorem dX6_write_41 : decode cX6_write 41 = .ok (.ireturn, 1) := by decide +kernel
theorem dX6_write_42 : decode cX6_write 42 = .ok (.aload_n 0, 1) := by decide +kernel
theorem dX6_write_43 : decode cX6_write 43 = .ok (.getfield 7, 3) := by decide +kernel
theorem dX6_write_46 : decode cX6_write 46 = .ok (.bipush 40, 2) := by decide +kernel
theorem dX6_write_48 : decode cX6_write 48 = .ok (.iload 5, 2) := by decide +kernel
theorem dX6_write_50 : decode cX6_write 50 = .ok (.imul, 1) := by decide +kernel
theorem dX6_write_51 : decode cX6_write 51 = .ok (.iload_n 3, 1) := by decide +kernel
theorem dX6_write_52 : decode cX6_write 52 = .ok (.iadd, 1) := by decide +kernel
theorem dX6_write_53 : decode cX6_write 53 = .ok (.iload 5, 2) := by decide +kernel
theorem dX6_write_55 : decode cX6_write 55 = .ok (.iload 4, 2) := by decide +kernel
theorem dX6_write_57 : decode cX6_write 57 = .ok (.invokestatic 40, 3) := by decide +kernel
theorem dX6_write_60 : decode cX6_write 60 = .ok (.lastore, 1) := by decide +kernel
theorem dX6_write_61 : decode cX6_write 61 = .ok (.aload_n 0, 1) := by decide +kernel
theorem dX6_write_62 : decode cX6_write 62 = .ok (.dup, 1) := by decide +kernel
theorem dX6_write_63 : decode cX6_write 63 = .ok (.getfield 44, 3) := by decide +kernel
theorem dX6_write_66 : decode cX6_write 66 = .ok (.iconst 1, 1) := by decide +kernel
theorem dX6_write_67 : decode cX6_write 67 = .ok (.iadd, 1) := by decide +kernel
theorem dX6_write_68 : decode cX6_write 68 = .ok (.putfield 44, 3) := by decide +kernel
theorem dX6_write_71 : decode cX6_write 71 = .ok (.aload_n 0, 1) := by decide +kernel
theorem dX6_write_72 : decode cX6_write 72 = .ok (.getfield 44, 3) := by decide +kernel
theorem dX6_write_75 : decode cX6_write 75 = .ok (.ireturn, 1) := by decide +kernel
theorem dX6_length_0 : decode cX6_length 0 = .ok (.aload_n 0, 1) := by decide +kernel
theorem dX6_length_1 : decode cX6_length 1 = .ok (.iconst 0, 1) := by decide +kernel
theorem dX6_length_2 : decode cX6_length 2 = .ok (.putfield 23, 3) := by decide +kernel
theorem dX6_length_5 : decode cX6_length 5 = .ok (.iload_n 2, 1) := by decide +kernel
theorem dX6_length_6 : decode cX6_length 6 = .ok (.ifCond .eq 15, 3) := by decide +kernel
theorem dX6_length_9 : decode cX6_length 9 = .ok (.aload_n 0, 1) := by decide +kernel
theorem dX6_length_10 : decode cX6_length 10 = .ok (.getfield 13, 3) := by decide +kernel
theorem dX6_length_13 : decode cX6_length 13 = .ok (.iload_n 1, 1) := by decide +kernel
theorem dX6_length_14 : decode cX6_length 14 = .ok (.bipush 7, 2) := by decide +kernel
theorem dX6_length_16 : decode cX6_length 16 = .ok (.iand, 1) := by decide +kernel
theorem dX6_length_17 : decode cX6_length 17 = .ok (.iaload, 1) := by decide +kernel
theorem dX6_length_18 : decode cX6_length 18 = .ok (.goto 8, 3) := by decide +kernel
theorem dX6_length_21 : decode cX6_length 21 = .ok (.aload_n 0, 1) := by decide +kernel
theorem dX6_length_22 : decode cX6_length 22 = .ok (.iconst 1, 1) := by decide +kernel
theorem dX6_length_23 : decode cX6_length 23 = .ok (.invokevirtual 36, 3) := by decide +kernel
theorem dX6_length_26 : decode cX6_length 26 = .ok (.ireturn, 1) := by decide +kernel
theorem dX6_make_0 : decode cX6_make 0 = .ok (.aload_n 0, 1) := by decide +kernel
theorem dX6_make_1 : decode cX6_make 1 = .ok (.iconst 0, 1) := by decide +kernel
theorem dX6_make_2 : decode cX6_make 2 = .ok (.putfield 23, 3) := by decide +kernel
theorem dX6_make_5 : decode cX6_make 5 = .ok (.iload_n 2, 1) := by decide +kernel
theorem dX6_make_6 : decode cX6_make 6 = .ok (.bipush 40, 2) := by decide +kernel
theorem dX6_make_8 : decode cX6_make 8 = .ok (.irem, 1) := by decide +kernel
theorem dX6_make_9 : decode cX6_make 9 = .ok (.istore_n 3, 1) := by decide +kernel
theorem dX6_make_10 : decode cX6_make 10 = .ok (.iload_n 1, 1) := by decide +kernel
theorem dX6_make_11 : decode cX6_make 11 = .ok (.bipush 7, 2) := by decide +kernel
theorem dX6_make_13 : decode cX6_make 13 = .ok (.iand, 1) := by decide +kernel
theorem dX6_make_14 : decode cX6_make 14 = .ok (.istore 4, 2) := by decide +kernel
theorem dX6_make_16 : decode cX6_make 16 = .ok (.iload_n 3, 1) := by decide +kernel
theorem dX6_make_17 : decode cX6_make 17 = .ok (.ifCond .ge 9, 3) := by decide +kernel
theorem dX6_make_20 : decode cX6_make 20 = .ok (.aload_n 0, 1) := by decide +kernel
theorem dX6_make_21 : decode cX6_make 21 = .ok (.iconst 1, 1) := by decide +kernel
theorem dX6_make_22 : decode cX6_make 22 = .ok (.invokevirtual 36, 3) := by decide +kernel
theorem dX6_make_25 : decode cX6_make 25 = .ok (.ireturn, 1) := by decide +kernel
theorem dX6_make_26 : decode cX6_make 26 = .ok (.aload_n 0, 1) := by decide +kernel
theorem dX6_make_27 : decode cX6_make 27 = .ok (.getfield 13, 3) := by decide +kernel
theorem dX6_make_30 : decode cX6_make 30 = .ok (.iload 4, 2) := by decide +kernel
theorem dX6_make_32 : decode cX6_make 32 = .ok (.iload_n 3, 1) := by decide +kernel
theorem dX6_make_33 : decode cX6_make 33 = .ok (.iastore, 1) := by decide +kernel
theorem dX6_make_34 : decode cX6_make 34 = .ok (.iconst 0, 1) := by decide +kernel
theorem dX6_make_35 : decode cX6_make 35 = .ok (.istore 5, 2) := by decide +kernel
theorem dX6_make_37 : decode cX6_make 37 = .ok (.iload 5, 2) := by decide +kernel
theorem dX6_make_39 : decode cX6_make 39 = .ok (.bipush 40, 2) := by decide +kernel
theorem dX6_make_41 : decode cX6_make 41 = .ok (.if_icmp .ge 23, 3) := by decide +kernel
theorem dX6_make_44 : decode cX6_make 44 = .ok (.aload_n 0, 1) := by decide +kernel
theorem dX6_make_45 : decode cX6_make 45 = .ok (.getfield 7, 3) := by decide +kernel
theorem dX6_make_48 : decode cX6_make 48 = .ok (.bipush 40, 2) := by decide +kernel
theorem dX6_make_50 : decode cX6_make 50 = .ok (.iload 4, 2) := by decide +kernel
theorem dX6_make_52 : decode cX6_make 52 = .ok (.imul, 1) := by decide +kernel
theorem dX6_make_53 : decode cX6_make 53 = .ok (.iload 5, 2) := by decide +kernel
theorem dX6_make_55 : decode cX6_make 55 = .ok (.iadd, 1) := by decide +kernel
theorem dX6_make_56 : decode cX6_make 56 = .ok (.lconst 0, 1) := by decide +kernel
theorem dX6_make_57 : decode cX6_make 57 = .ok (.lastore, 1) := by decide +kernel
theorem dX6_make_58 : decode cX6_make 58 = .ok (.iinc 5 1, 3) := by decide +kernel
theorem dX6_make_61 : decode cX6_make 61 = .ok (.goto (-24), 3) := by decide +kernel
theorem dX6_make_64 : decode cX6_make 64 = .ok (.iload_n 3, 1) := by decide +kernel
theorem dX6_make_65 : decode cX6_make 65 = .ok (.ireturn, 1) := by decide +kernel
theorem dX6_grid_0 : decode cX6_grid 0 = .ok (.aload_n 0, 1) := by decide +kernel
theorem dX6_grid_1 : decode cX6_grid 1 = .ok (.iconst 0, 1) := by decide +kernel
theorem dX6_grid_2 : decode cX6_grid 2 = .ok (.putfield 23, 3) := by decide +kernel
theorem dX6_grid_5 : decode cX6_grid 5 = .ok (.iload_n 1, 1) := by decide +kernel
theorem dX6_grid_6 : decode cX6_grid 6 = .ok (.bipush 9, 2) := by decide +kernel
theorem dX6_grid_8 : decode cX6_grid 8 = .ok (.irem, 1) := by decide +kernel
theorem dX6_grid_9 : decode cX6_grid 9 = .ok (.istore_n 3, 1) := by decide +kernel
theorem dX6_grid_10 : decode cX6_grid 10 = .ok (.iload_n 2, 1) := by decide +kernel
theorem dX6_grid_11 : decode cX6_grid 11 = .ok (.bipush 9, 2) := by decide +kernel
theorem dX6_grid_13 : decode cX6_grid 13 = .ok (.irem, 1) := by decide +kernel
theorem dX6_grid_14 : decode cX6_grid 14 = .ok (.istore 4, 2) := by decide +kernel
theorem dX6_grid_16 : decode cX6_grid 16 = .ok (.iload_n 3, 1) := by decide +kernel
theorem dX6_grid_17 : decode cX6_grid 17 = .ok (.ifCond .lt 8, 3) := by decide +kernel
theorem dX6_grid_20 : decode cX6_grid 20 = .ok (.iload 4, 2) := by decide +kernel
theorem dX6_grid_22 : decode cX6_grid 22 = .ok (.ifCond .ge 9, 3) := by decide +kernel
theorem dX6_grid_25 : decode cX6_grid 25 = .ok (.aload_n 0, 1) := by decide +kernel
theorem dX6_grid_26 : decode cX6_grid 26 = .ok (.iconst 1, 1) := by decide +kernel
theorem dX6_grid_27 : decode cX6_grid 27 = .ok (.invokevirtual 36, 3) := by decide +kernel
theorem dX6_grid_30 : decode cX6_grid 30 = .ok (.ireturn, 1) := by decide +kernel
theorem dX6_grid_31 : decode cX6_grid 31 = .ok (.aload_n 0, 1) := by decide +kernel
theorem dX6_grid_32 : decode cX6_grid 32 = .ok (.iconst 1, 1) := by decide +kernel
theorem dX6_grid_33 : decode cX6_grid 33 = .ok (.putfield 47, 3) := by decide +kernel
theorem dX6_grid_36 : decode cX6_grid 36 = .ok (.aload_n 0, 1) := by decide +kernel
theorem dX6_grid_37 : decode cX6_grid 37 = .ok (.iload_n 3, 1) := by decide +kernel
theorem dX6_grid_38 : decode cX6_grid 38 = .ok (.putfield 51, 3) := by decide +kernel
theorem dX6_grid_41 : decode cX6_grid 41 = .ok (.aload_n 0, 1) := by decide +kernel
theorem dX6_grid_42 : decode cX6_grid 42 = .ok (.iload 4, 2) := by decide +kernel
theorem dX6_grid_44 : decode cX6_grid 44 = .ok (.putfield 54, 3) := by decide +kernel
theorem dX6_grid_47 : decode cX6_grid 47 = .ok (.iload_n 3, 1) := by decide +kernel
theorem dX6_grid_48 : decode cX6_grid 48 = .ok (.iload 4, 2) := by decide +kernel
theorem dX6_grid_50 : decode cX6_grid 50 = .ok (.imul, 1) := by decide +kernel
theorem dX6_grid_51 : decode cX6_grid 51 = .ok (.ireturn, 1) := by decide +kernel
theorem dX6_cell_0 : decode cX6_cell 0 = .ok (.aload_n 0, 1) := by decide +kernel
theorem dX6_cell_1 : decode cX6_cell 1 = .ok (.iconst 0, 1) := by decide +kernel
theorem dX6_cell_2 : decode cX6_cell 2 = .ok (.putfield 23, 3) := by decide +kernel
theorem dX6_cell_5 : decode cX6_cell 5 = .ok (.aload_n 0, 1) := by decide +kernel
theorem dX6_cell_6 : decode cX6_cell 6 = .ok (.getfield 47, 3) := by decide +kernel
theorem dX6_cell_9 : decode cX6_cell 9 = .ok (.ifCond .ne 9, 3) := by decide +kernel
theorem dX6_cell_12 : decode cX6_cell 12 = .ok (.aload_n 0, 1) := by decide +kernel
theorem dX6_cell_13 : decode cX6_cell 13 = .ok (.iconst 1, 1) := by decide +kernel
theorem dX6_cell_14 : decode cX6_cell 14 = .ok (.invokevirtual 36, 3) := by decide +kernel
theorem dX6_cell_17 : decode cX6_cell 17 = .ok (.ireturn, 1) := by decide +kernel
theorem dX6_cell_18 : decode cX6_cell 18 = .ok (.iload_n 1, 1) := by decide +kernel
theorem dX6_cell_19 : decode cX6_cell 19 = .ok (.ifCond .lt 23, 3) := by decide +kernel
theorem dX6_cell_22 : decode cX6_cell 22 = .ok (.iload_n 1, 1) := by decide +kernel
theorem dX6_cell_23 : decode cX6_cell 23 = .ok (.aload_n 0, 1) := by decide +kernel
theorem dX6_cell_24 : decode cX6_cell 24 = .ok (.getfield 51, 3) := by decide +kernel
theorem dX6_cell_27 : decode cX6_cell 27 = .ok (.if_icmp .ge 15, 3) := by decide +kernel
theorem dX6_cell_30 : decode cX6_cell 30 = .ok (.iload_n 2, 1) := by decide +kernel
theorem dX6_cell_31 : decode cX6_cell 31 = .ok (.ifCond .lt 11, 3) := by decide +kernel
theorem dX6_cell_34 : decode cX6_cell 34 = .ok (.iload_n 2, 1) := by decide +kernel
theorem dX6_cell_35 : decode cX6_cell 35 = .ok (.aload_n 0, 1) := by decide +kernel
theorem dX6_cell_36 : decode cX6_cell 36 = .ok (.getfield 54, 3) := by decide +kernel
theorem dX6_cell_39 : decode cX6_cell 39 = .ok (.if_icmp .lt 9, 3) := by decide +kernel
theorem dX6_cell_42 : decode cX6_cell 42 = .ok (.aload_n 0, 1) := by decide +kernel
theorem dX6_cell_43 : decode cX6_cell 43 = .ok (.iconst 2, 1) := by decide +kernel
theorem dX6_cell_44 : decode cX6_cell 44 = .ok (.invokevirtual 36, 3) := by decide +kernel
theorem dX6_cell_47 : decode cX6_cell 47 = .ok (.ireturn, 1) := by decide +kernel
theorem dX6_cell_48 : decode cX6_cell 48 = .ok (.bipush 10, 2) := by decide +kernel
theorem dX6_cell_50 : decode cX6_cell 50 = .ok (.iload_n 1, 1) := by decide +kernel
theorem dX6_cell_51 : decode cX6_cell 51 = .ok (.imul, 1) := by decide +kernel
theorem dX6_cell_52 : decode cX6_cell 52 = .ok (.iload_n 2, 1) := by decide +kernel
theorem dX6_cell_53 : decode cX6_cell 53 = .ok (.iadd, 1) := by decide +kernel
theorem dX6_cell_54 : decode cX6_cell 54 = .ok (.ireturn, 1) := by decide +kernel
theorem dX6_boxes_0 : decode cX6_boxes 0 = .ok (.aload_n 0, 1) := by decide +kernel
theorem dX6_boxes_1 : decode cX6_boxes 1 = .ok (.iconst 0, 1) := by decide +kernel
theorem dX6_boxes_2 : decode cX6_boxes 2 = .ok (.putfield 23, 3) := by decide +kernel
theorem dX6_boxes_5 : decode cX6_boxes 5 = .ok (.iload_n 1, 1) := by decide +kernel
theorem dX6_boxes_6 : decode cX6_boxes 6 = .ok (.bipush 20, 2) := by decide +kernel
theorem dX6_boxes_8 : decode cX6_boxes 8 = .ok (.irem, 1) := by decide +kernel
theorem dX6_boxes_9 : decode cX6_boxes 9 = .ok (.istore_n 3, 1) := by decide +kernel
theorem dX6_boxes_10 : decode cX6_boxes 10 = .ok (.iload_n 3, 1) := by decide +kernel
theorem dX6_boxes_11 : decode cX6_boxes 11 = .ok (.ifCond .ge 9, 3) := by decide +kernel
theorem dX6_boxes_14 : decode cX6_boxes 14 = .ok (.aload_n 0, 1) := by decide +kernel
theorem dX6_boxes_15 : decode cX6_boxes 15 = .ok (.iconst 1, 1) := by decide +kernel
theorem dX6_boxes_16 : decode cX6_boxes 16 = .ok (.invokevirtual 36, 3) := by decide +kernel
theorem dX6_boxes_19 : decode cX6_boxes 19 = .ok (.ireturn, 1) := by decide +kernel
theorem dX6_boxes_20 : decode cX6_boxes 20 = .ok (.aload_n 0, 1) := by decide +kernel
theorem dX6_boxes_21 : decode cX6_boxes 21 = .ok (.iconst 1, 1) := by decide +kernel
theorem dX6_boxes_22 : decode cX6_boxes 22 = .ok (.putfield 57, 3) := by decide +kernel
theorem dX6_boxes_25 : decode cX6_boxes 25 = .ok (.aload_n 0, 1) := by decide +kernel
theorem dX6_boxes_26 : decode cX6_boxes 26 = .ok (.iload_n 2, 1) := by decide +kernel
theorem dX6_boxes_27 : decode cX6_boxes 27 = .ok (.putfield 60, 3) := by decide +kernel
theorem dX6_boxes_30 : decode cX6_boxes 30 = .ok (.aload_n 0, 1) := by decide +kernel
theorem dX6_boxes_31 : decode cX6_boxes 31 = .ok (.iload_n 3, 1) := by decide +kernel
theorem dX6_boxes_32 : decode cX6_boxes 32 = .ok (.putfield 63, 3) := by decide +kernel
theorem dX6_boxes_35 : decode cX6_boxes 35 = .ok (.iconst 0, 1) := by decide +kernel
theorem dX6_boxes_36 : decode cX6_boxes 36 = .ok (.istore 4, 2) := by decide +kernel
theorem dX6_boxes_38 : decode cX6_boxes 38 = .ok (.iload 4, 2) := by decide +kernel
theorem dX6_boxes_40 : decode cX6_boxes 40 = .ok (.bipush 20, 2) := by decide +kernel
theorem dX6_boxes_42 : decode cX6_boxes 42 = .ok (.if_icmp .ge 17, 3) := by decide +kernel
theorem dX6_boxes_45 : decode cX6_boxes 45 = .ok (.aload_n 0, 1) := by decide +kernel
theorem dX6_boxes_46 : decode cX6_boxes 46 = .ok (.getfield 17, 3) := by decide +kernel
theorem dX6_boxes_49 : decode cX6_boxes 49 = .ok (.iload 4, 2) := by decide +kernel
theorem dX6_boxes_51 : decode cX6_boxes 51 = .ok (.iconst 0, 1) := by decide +kernel
theorem dX6_boxes_52 : decode cX6_boxes 52 = .ok (.iastore, 1) := by decide +kernel
theorem dX6_boxes_53 : decode cX6_boxes 53 = .ok (.iinc 4 1, 3) := by decide +kernel
theorem dX6_boxes_56 : decode cX6_boxes 56 = .ok (.goto (-18), 3) := by decide +kernel
theorem dX6_boxes_59 : decode cX6_boxes 59 = .ok (.iload_n 3, 1) := by decide +kernel
theorem dX6_boxes_60 : decode cX6_boxes 60 = .ok (.ireturn, 1) := by decide +kernel
theorem dX6_put_0 : decode cX6_put 0 = .ok (.aload_n 0, 1) := by decide +kernel
theorem dX6_put_1 : decode cX6_put 1 = .ok (.iconst 0, 1) := by decide +kernel
theorem dX6_put_2 : decode cX6_put 2 = .ok (.putfield 23, 3) := by decide +kernel
theorem dX6_put_5 : decode cX6_put 5 = .ok (.iload_n 3, 1) := by decide +kernel
theorem dX6_put_6 : decode cX6_put 6 = .ok (.iconst 3, 1) := by decide +kernel
theorem dX6_put_7 : decode cX6_put 7 = .ok (.iand, 1) := by decide +kernel
theorem dX6_put_8 : decode cX6_put 8 = .ok (.istore 5, 2) := by decide +kernel
theorem dX6_put_10 : decode cX6_put 10 = .ok (.aload_n 0, 1) := by decide +kernel
theorem dX6_put_11 : decode cX6_put 11 = .ok (.getfield 57, 3) := by decide +kernel
theorem dX6_put_14 : decode cX6_put 14 = .ok (.ifCond .eq 7, 3) := by decide +kernel
theorem dX6_put_17 : decode cX6_put 17 = .ok (.iload_n 1, 1) := by decide +kernel
theorem dX6_put_18 : decode cX6_put 18 = .ok (.ifCond .ne 9, 3) := by decide +kernel
theorem dX6_put_21 : decode cX6_put 21 = .ok (.aload_n 0, 1) := by decide +kernel
theorem dX6_put_22 : decode cX6_put 22 = .ok (.iconst 1, 1) := by decide +kernel
theorem dX6_put_23 : decode cX6_put 23 = .ok (.invokevirtual 36, 3) := by decide +kernel
theorem dX6_put_26 : decode cX6_put 26 = .ok (.ireturn, 1) := by decide +kernel
theorem dX6_put_27 : decode cX6_put 27 = .ok (.iload_n 2, 1) := by decide +kernel
theorem dX6_put_28 : decode cX6_put 28 = .ok (.ifCond .lt 11, 3) := by decide +kernel
theorem dX6_put_31 : decode cX6_put 31 = .ok (.iload_n 2, 1) := by decide +kernel
theorem dX6_put_32 : decode cX6_put 32 = .ok (.aload_n 0, 1) := by decide +kernel
theorem dX6_put_33 : decode cX6_put 33 = .ok (.getfield 63, 3) := by decide +kernel
theorem dX6_put_36 : decode cX6_put 36 = .ok (.if_icmp .lt 9, 3) := by decide +kernel
theorem dX6_put_39 : decode cX6_put 39 = .ok (.aload_n 0, 1) := by decide +kernel
theorem dX6_put_40 : decode cX6_put 40 = .ok (.iconst 2, 1) := by decide +kernel
theorem dX6_put_41 : decode cX6_put 41 = .ok (.invokevirtual 36, 3) := by decide +kernel
theorem dX6_put_44 : decode cX6_put 44 = .ok (.ireturn, 1) := by decide +kernel
theorem dX6_put_45 : decode cX6_put 45 = .ok (.iload 5, 2) := by decide +kernel
theorem dX6_put_47 : decode cX6_put 47 = .ok (.iconst 1, 1) := by decide +kernel
theorem dX6_put_48 : decode cX6_put 48 = .ok (.if_icmp .ne 16, 3) := by decide +kernel
theorem dX6_put_51 : decode cX6_put 51 = .ok (.aload_n 0, 1) := by decide +kernel
theorem dX6_put_52 : decode cX6_put 52 = .ok (.getfield 60, 3) := by decide +kernel
theorem dX6_put_55 : decode cX6_put 55 = .ok (.ifCond .eq 9, 3) := by decide +kernel
theorem dX6_put_58 : decode cX6_put 58 = .ok (.aload_n 0, 1) := by decide +kernel
theorem dX6_put_59 : decode cX6_put 59 = .ok (.iconst 3, 1) := by decide +kernel
theorem dX6_put_60 : decode cX6_put 60 = .ok (.invokevirtual 36, 3) := by decide +kernel
theorem dX6_put_63 : decode cX6_put 63 = .ok (.ireturn, 1) := by decide +kernel
theorem dX6_put_64 : decode cX6_put 64 = .ok (.aload_n 0, 1) := by decide +kernel
theorem dX6_put_65 : decode cX6_put 65 = .ok (.getfield 17, 3) := by decide +kernel
theorem dX6_put_68 : decode cX6_put 68 = .ok (.iload_n 2, 1) := by decide +kernel
theorem dX6_put_69 : decode cX6_put 69 = .ok (.iload 5, 2) := by decide +kernel
theorem dX6_put_71 : decode cX6_put 71 = .ok (.iconst 2, 1) := by decide +kernel
theorem dX6_put_72 : decode cX6_put 72 = .ok (.if_icmp .le 7, 3) := by decide +kernel
theorem dX6_put_75 : decode cX6_put 75 = .ok (.iconst 2, 1) := by decide +kernel
theorem dX6_put_76 : decode cX6_put 76 = .ok (.goto 5, 3) := by decide +kernel
theorem dX6_put_79 : decode cX6_put 79 = .ok (.iload 5, 2) := by decide +kernel
theorem dX6_put_81 : decode cX6_put 81 = .ok (.iastore, 1) := by decide +kernel
theorem dX6_put_82 : decode cX6_put 82 = .ok (.aload_n 0, 1) := by decide +kernel
theorem dX6_put_83 : decode cX6_put 83 = .ok (.getfield 20, 3) := by decide +kernel
theorem dX6_put_86 : decode cX6_put 86 = .ok (.iload_n 2, 1) := by decide +kernel
theorem dX6_put_87 : decode cX6_put 87 = .ok (.iload 4, 2) := by decide +kernel
theorem dX6_put_89 : decode cX6_put 89 = .ok (.iastore, 1) := by decide +kernel
theorem dX6_put_90 : decode cX6_put 90 = .ok (.aload_n 0, 1) := by decide +kernel
theorem dX6_put_91 : decode cX6_put 91 = .ok (.dup, 1) := by decide +kernel
theorem dX6_put_92 : decode cX6_put 92 = .ok (.getfield 66, 3) := by decide +kernel
theorem dX6_put_95 : decode cX6_put 95 = .ok (.iconst 1, 1) := by decide +kernel
theorem dX6_put_96 : decode cX6_put 96 = .ok (.iadd, 1) := by decide +kernel
theorem dX6_put_97 : decode cX6_put 97 = .ok (.putfield 66, 3) := by decide +kernel
theorem dX6_put_100 : decode cX6_put 100 = .ok (.aload_n 0, 1) := by decide +kernel
theorem dX6_put_101 : decode cX6_put 101 = .ok (.getfield 66, 3) := by decide +kernel
theorem dX6_put_104 : decode cX6_put 104 = .ok (.ireturn, 1) := by decide +kernel
theorem dX6_isThere_0 : decode cX6_isThere 0 = .ok (.aload_n 0, 1) := by decide +kernel
theorem dX6_isThere_1 : decode cX6_isThere 1 = .ok (.aload_n 0, 1) := by decide +kernel
theorem dX6_isThere_2 : decode cX6_isThere 2 = .ok (.getfield 57, 3) := by decide +kernel
theorem dX6_isThere_5 : decode cX6_isThere 5 = .ok (.ifCond .ne 7, 3) := by decide +kernel
theorem dX6_isThere_8 : decode cX6_isThere 8 = .ok (.iconst 1, 1) := by decide +kernel
theorem dX6_isThere_9 : decode cX6_isThere 9 = .ok (.goto 33, 3) := by decide +kernel
theorem dX6_isThere_12 : decode cX6_isThere 12 = .ok (.iload_n 1, 1) := by decide +kernel
theorem dX6_isThere_13 : decode cX6_isThere 13 = .ok (.ifCond .lt 11, 3) := by decide +kernel
theorem dX6_isThere_16 : decode cX6_isThere 16 = .ok (.iload_n 1, 1) := by decide +kernel
theorem dX6_isThere_17 : decode cX6_isThere 17 = .ok (.aload_n 0, 1) := by decide +kernel
theorem dX6_isThere_18 : decode cX6_isThere 18 = .ok (.getfield 63, 3) := by decide +kernel
theorem dX6_isThere_21 : decode cX6_isThere 21 = .ok (.if_icmp .lt 7, 3) := by decide +kernel
theorem dX6_isThere_24 : decode cX6_isThere 24 = .ok (.iconst 2, 1) := by decide +kernel
theorem dX6_isThere_25 : decode cX6_isThere 25 = .ok (.goto 17, 3) := by decide +kernel
theorem dX6_isThere_28 : decode cX6_isThere 28 = .ok (.aload_n 0, 1) := by decide +kernel
theorem dX6_isThere_29 : decode cX6_isThere 29 = .ok (.getfield 17, 3) := by decide +kernel
theorem dX6_isThere_32 : decode cX6_isThere 32 = .ok (.iload_n 1, 1) := by decide +kernel
theorem dX6_isThere_33 : decode cX6_isThere 33 = .ok (.iaload, 1) := by decide +kernel
theorem dX6_isThere_34 : decode cX6_isThere 34 = .ok (.ifCond .ne 7, 3) := by decide +kernel
theorem dX6_isThere_37 : decode cX6_isThere 37 = .ok (.iconst 1, 1) := by decide +kernel
theorem dX6_isThere_38 : decode cX6_isThere 38 = .ok (.goto 4, 3) := by decide +kernel
theorem dX6_isThere_41 : decode cX6_isThere 41 = .ok (.iconst 0, 1) := by decide +kernel
theorem dX6_isThere_42 : decode cX6_isThere 42 = .ok (.putfield 23, 3) := by decide +kernel
theorem dX6_isThere_45 : decode cX6_isThere 45 = .ok (.aload_n 0, 1) := by decide +kernel
theorem dX6_isThere_46 : decode cX6_isThere 46 = .ok (.getfield 23, 3) := by decide +kernel
theorem dX6_isThere_49 : decode cX6_isThere 49 = .ok (.ifCond .ne 7, 3) := by decide +kernel
theorem dX6_isThere_52 : decode cX6_isThere 52 = .ok (.iconst 1, 1) := by decide +kernel
theorem dX6_isThere_53 : decode cX6_isThere 53 = .ok (.goto 4, 3) := by decide +kernel
theorem dX6_isThere_56 : decode cX6_isThere 56 = .ok (.iconst 0, 1) := by decide +kernel
theorem dX6_isThere_57 : decode cX6_isThere 57 = .ok (.ireturn, 1) := by decide +kernel
theorem dX6_value_0 : decode cX6_value 0 = .ok (.aload_n 0, 1) := by decide +kernel
theorem dX6_value_1 : decode cX6_value 1 = .ok (.iload_n 1, 1) := by decide +kernel
theorem dX6_value_2 : decode cX6_value 2 = .ok (.invokevirtual 69, 3) := by decide +kernel
theorem dX6_value_5 : decode cX6_value 5 = .ok (.ifCond .eq 12, 3) := by decide +kernel
theorem dX6_value_8 : decode cX6_value 8 = .ok (.aload_n 0, 1) := by decide +kernel
theorem dX6_value_9 : decode cX6_value 9 = .ok (.getfield 20, 3) := by decide +kernel
theorem dX6_value_12 : decode cX6_value 12 = .ok (.iload_n 1, 1) := by decide +kernel
theorem dX6_value_13 : decode cX6_value 13 = .ok (.iaload, 1) := by decide +kernel
theorem dX6_value_14 : decode cX6_value 14 = .ok (.goto 4, 3) := by decide +kernel
theorem dX6_value_17 : decode cX6_value 17 = .ok (.iconst 0, 1) := by decide +kernel
theorem dX6_value_18 : decode cX6_value 18 = .ok (.ireturn, 1) := by decide +kernel
theorem dX6_change_0 : decode cX6_change 0 = .ok (.aload_n 0, 1) := by decide +kernel
theorem dX6_change_1 : decode cX6_change 1 = .ok (.iload_n 1, 1) := by decide +kernel
theorem dX6_change_2 : decode cX6_change 2 = .ok (.invokevirtual 69, 3) := by decide +kernel
theorem dX6_change_5 : decode cX6_change 5 = .ok (.ifCond .ne 5, 3) := by decide +kernel
theorem dX6_change_8 : decode cX6_change 8 = .ok (.iconst 0, 1) := by decide +kernel
theorem dX6_change_9 : decode cX6_change 9 = .ok (.ireturn, 1) := by decide +kernel
theorem dX6_change_10 : decode cX6_change 10 = .ok (.aload_n 0, 1) := by decide +kernel
theorem dX6_change_11 : decode cX6_change 11 = .ok (.getfield 20, 3) := by decide +kernel
theorem dX6_change_14 : decode cX6_change 14 = .ok (.iload_n 1, 1) := by decide +kernel
theorem dX6_change_15 : decode cX6_change 15 = .ok (.iaload, 1) := by decide +kernel
theorem dX6_change_16 : decode cX6_change 16 = .ok (.istore_n 3, 1) := by decide +kernel
theorem dX6_change_17 : decode cX6_change 17 = .ok (.aload_n 0, 1) := by decide +kernel
theorem dX6_change_18 : decode cX6_change 18 = .ok (.getfield 20, 3) := by decide +kernel
theorem dX6_change_21 : decode cX6_change 21 = .ok (.iload_n 1, 1) := by decide +kernel
theorem dX6_change_22 : decode cX6_change 22 = .ok (.iload_n 2, 1) := by decide +kernel
theorem dX6_change_23 : decode cX6_change 23 = .ok (.iastore, 1) := by decide +kernel
theorem dX6_change_24 : decode cX6_change 24 = .ok (.iload_n 3, 1) := by decide +kernel
theorem dX6_change_25 : decode cX6_change 25 = .ok (.ireturn, 1) := by decide +kernel
theorem dX6_weigh_0 : decode cX6_weigh 0 = .ok (.aload_n 0, 1) := by decide +kernel
theorem dX6_weigh_1 : decode cX6_weigh 1 = .ok (.iload_n 1, 1) := by decide +kernel
theorem dX6_weigh_2 : decode cX6_weigh 2 = .ok (.invokevirtual 69, 3) := by decide +kernel
theorem dX6_weigh_5 : decode cX6_weigh 5 = .ok (.ifCond .ne 5, 3) := by decide +kernel
theorem dX6_weigh_8 : decode cX6_weigh 8 = .ok (.iconst 0, 1) := by decide +kernel
theorem dX6_weigh_9 : decode cX6_weigh 9 = .ok (.ireturn, 1) := by decide +kernel
theorem dX6_weigh_10 : decode cX6_weigh 10 = .ok (.aload_n 0, 1) := by decide +kernel
theorem dX6_weigh_11 : decode cX6_weigh 11 = .ok (.getfield 17, 3) := by decide +kernel
theorem dX6_weigh_14 : decode cX6_weigh 14 = .ok (.iload_n 1, 1) := by decide +kernel
theorem dX6_weigh_15 : decode cX6_weigh 15 = .ok (.iaload, 1) := by decide +kernel
theorem dX6_weigh_16 : decode cX6_weigh 16 = .ok (.iconst 1, 1) := by decide +kernel
theorem dX6_weigh_17 : decode cX6_weigh 17 = .ok (.if_icmp .ne 16, 3) := by decide +kernel
theorem dX6_weigh_20 : decode cX6_weigh 20 = .ok (.aload_n 0, 1) := by decide +kernel
theorem dX6_weigh_21 : decode cX6_weigh 21 = .ok (.getfield 20, 3) := by decide +kernel
theorem dX6_weigh_24 : decode cX6_weigh 24 = .ok (.iload_n 1, 1) := by decide +kernel
theorem dX6_weigh_25 : decode cX6_weigh 25 = .ok (.iaload, 1) := by decide +kernel
theorem dX6_weigh_26 : decode cX6_weigh 26 = .ok (.iconst 3, 1) := by decide +kernel
theorem dX6_weigh_27 : decode cX6_weigh 27 = .ok (.imul, 1) := by decide +kernel
theorem dX6_weigh_28 : decode cX6_weigh 28 = .ok (.iload_n 2, 1) := by decide +kernel
theorem dX6_weigh_29 : decode cX6_weigh 29 = .ok (.iadd, 1) := by decide +kernel
theorem dX6_weigh_30 : decode cX6_weigh 30 = .ok (.goto 13, 3) := by decide +kernel
theorem dX6_weigh_33 : decode cX6_weigh 33 = .ok (.aload_n 0, 1) := by decide +kernel
theorem dX6_weigh_34 : decode cX6_weigh 34 = .ok (.getfield 20, 3) := by decide +kernel
theorem dX6_weigh_37 : decode cX6_weigh 37 = .ok (.iload_n 1, 1) := by decide +kernel
theorem dX6_weigh_38 : decode cX6_weigh 38 = .ok (.iaload, 1) := by decide +kernel
theorem dX6_weigh_39 : decode cX6_weigh 39 = .ok (.iconst 5, 1) := by decide +kernel
theorem dX6_weigh_40 : decode cX6_weigh 40 = .ok (.imul, 1) := by decide +kernel
theorem dX6_weigh_41 : decode cX6_weigh 41 = .ok (.iload_n 2, 1) := by decide +kernel
theorem dX6_weigh_42 : decode cX6_weigh 42 = .ok (.isub, 1) := by decide +kernel
theorem dX6_weigh_43 : decode cX6_weigh 43 = .ok (.ireturn, 1) := by decide +kernel
theorem dX6_roll_0 : decode cX6_roll 0 = .ok (.aload_n 0, 1) := by decide +kernel
theorem dX6_roll_1 : decode cX6_roll 1 = .ok (.iload_n 1, 1) := by decide +kernel
theorem dX6_roll_2 : decode cX6_roll 2 = .ok (.invokevirtual 69, 3) := by decide +kernel
theorem dX6_roll_5 : decode cX6_roll 5 = .ok (.ifCond .ne 5, 3) := by decide +kernel
theorem dX6_roll_8 : decode cX6_roll 8 = .ok (.iconst 0, 1) := by decide +kernel
theorem dX6_roll_9 : decode cX6_roll 9 = .ok (.ireturn, 1) := by decide +kernel
theorem dX6_roll_10 : decode cX6_roll 10 = .ok (.aload_n 0, 1) := by decide +kernel
theorem dX6_roll_11 : decode cX6_roll 11 = .ok (.getfield 17, 3) := by decide +kernel
theorem dX6_roll_14 : decode cX6_roll 14 = .ok (.iload_n 1, 1) := by decide +kernel
theorem dX6_roll_15 : decode cX6_roll 15 = .ok (.iaload, 1) := by decide +kernel
theorem dX6_roll_16 : decode cX6_roll 16 = .ok (.iconst 1, 1) := by decide +kernel
theorem dX6_roll_17 : decode cX6_roll 17 = .ok (.if_icmp .ne 11, 3) := by decide +kernel
theorem dX6_roll_20 : decode cX6_roll 20 = .ok (.aload_n 0, 1) := by decide +kernel
theorem dX6_roll_21 : decode cX6_roll 21 = .ok (.iconst 3, 1) := by decide +kernel
theorem dX6_roll_22 : decode cX6_roll 22 = .ok (.invokevirtual 36, 3) := by decide +kernel
theorem dX6_roll_25 : decode cX6_roll 25 = .ok (.goto 11, 3) := by decide +kernel
theorem dX6_roll_28 : decode cX6_roll 28 = .ok (.aload_n 0, 1) := by decide +kernel
theorem dX6_roll_29 : decode cX6_roll 29 = .ok (.getfield 20, 3) := by decide +kernel
theorem dX6_roll_32 : decode cX6_roll 32 = .ok (.iload_n 1, 1) := by decide +kernel
theorem dX6_roll_33 : decode cX6_roll 33 = .ok (.iaload, 1) := by decide +kernel
theorem dX6_roll_34 : decode cX6_roll 34 = .ok (.iload_n 2, 1) := by decide +kernel
theorem dX6_roll_35 : decode cX6_roll 35 = .ok (.ixor, 1) := by decide +kernel
theorem dX6_roll_36 : decode cX6_roll 36 = .ok (.ireturn, 1) := by decide +kernel
theorem dX6_divide_0 : decode cX6_divide 0 = .ok (.aload_n 0, 1) := by decide +kernel
theorem dX6_divide_1 : decode cX6_divide 1 = .ok (.iconst 0, 1) := by decide +kernel
theorem dX6_divide_2 : decode cX6_divide 2 = .ok (.putfield 23, 3) := by decide +kernel
theorem dX6_divide_5 : decode cX6_divide 5 = .ok (.iload_n 2, 1) := by decide +kernel
theorem dX6_divide_6 : decode cX6_divide 6 = .ok (.ifCond .ne 9, 3) := by decide +kernel
theorem dX6_divide_9 : decode cX6_divide 9 = .ok (.aload_n 0, 1) := by decide +kernel
theorem dX6_divide_10 : decode cX6_divide 10 = .ok (.iconst 1, 1) := by decide +kernel
theorem dX6_divide_11 : decode cX6_divide 11 = .ok (.invokevirtual 36, 3) := by decide +kernel
theorem dX6_divide_14 : decode cX6_divide 14 = .ok (.ireturn, 1) := by decide +kernel
theorem dX6_divide_15 : decode cX6_divide 15 = .ok (.iload_n 3, 1) := by decide +kernel
theorem dX6_divide_16 : decode cX6_divide 16 = .ok (.ifCond .eq 9, 3) := by decide +kernel
theorem dX6_divide_19 : decode cX6_divide 19 = .ok (.iload_n 1, 1) := by decide +kernel
theorem dX6_divide_20 : decode cX6_divide 20 = .ok (.iload_n 2, 1) := by decide +kernel
theorem dX6_divide_21 : decode cX6_divide 21 = .ok (.irem, 1) := by decide +kernel
theorem dX6_divide_22 : decode cX6_divide 22 = .ok (.goto 6, 3) := by decide +kernel
theorem dX6_divide_25 : decode cX6_divide 25 = .ok (.iload_n 1, 1) := by decide +kernel
theorem dX6_divide_26 : decode cX6_divide 26 = .ok (.iload_n 2, 1) := by decide +kernel
theorem dX6_divide_27 : decode cX6_divide 27 = .ok (.idiv, 1) := by decide +kernel
theorem dX6_divide_28 : decode cX6_divide 28 = .ok (.ireturn, 1) := by decide +kernel
theorem dX6_divideLong_0 : decode cX6_divideLong 0 = .ok (.aload_n 0, 1) := by decide +kernel
theorem dX6_divideLong_1 : decode cX6_divideLong 1 = .ok (.iconst 0, 1) := by decide +kernel
theorem dX6_divideLong_2 : decode cX6_divideLong 2 = .ok (.putfield 23, 3) := by decide +kernel
theorem dX6_divideLong_5 : decode cX6_divideLong 5 = .ok (.lload_n 3, 1) := by decide +kernel
theorem dX6_divideLong_6 : decode cX6_divideLong 6 = .ok (.lconst 0, 1) := by decide +kernel
theorem dX6_divideLong_7 : decode cX6_divideLong 7 = .ok (.lcmp, 1) := by decide +kernel
theorem dX6_divideLong_8 : decode cX6_divideLong 8 = .ok (.ifCond .ne 10, 3) := by decide +kernel
theorem dX6_divideLong_11 : decode cX6_divideLong 11 = .ok (.aload_n 0, 1) := by decide +kernel
theorem dX6_divideLong_12 : decode cX6_divideLong 12 = .ok (.iconst 1, 1) := by decide +kernel
theorem dX6_divideLong_13 : decode cX6_divideLong 13 = .ok (.invokevirtual 36, 3) := by decide +kernel
theorem dX6_divideLong_16 : decode cX6_divideLong 16 = .ok (.i2l, 1) := by decide +kernel
theorem dX6_divideLong_17 : decode cX6_divideLong 17 = .ok (.lreturn, 1) := by decide +kernel
theorem dX6_divideLong_18 : decode cX6_divideLong 18 = .ok (.iload 5, 2) := by decide +kernel
theorem dX6_divideLong_20 : decode cX6_divideLong 20 = .ok (.ifCond .eq 9, 3) := by decide +kernel
theorem dX6_divideLong_23 : decode cX6_divideLong 23 = .ok (.lload_n 1, 1) := by decide +kernel
theorem dX6_divideLong_24 : decode cX6_divideLong 24 = .ok (.lload_n 3, 1) := by decide +kernel
theorem dX6_divideLong_25 : decode cX6_divideLong 25 = .ok (.lrem, 1) := by decide +kernel
theorem dX6_divideLong_26 : decode cX6_divideLong 26 = .ok (.goto 6, 3) := by decide +kernel
theorem dX6_divideLong_29 : decode cX6_divideLong 29 = .ok (.lload_n 1, 1) := by decide +kernel
theorem dX6_divideLong_30 : decode cX6_divideLong 30 = .ok (.lload_n 3, 1) := by decide +kernel
theorem dX6_divideLong_31 : decode cX6_divideLong 31 = .ok (.ldiv, 1) := by decide +kernel
theorem dX6_divideLong_32 : decode cX6_divideLong 32 = .ok (.lreturn, 1) := by decide +kernel
theorem dX6_raise_0 : decode cX6_raise 0 = .ok (.aload_n 0, 1) := by decide +kernel
theorem dX6_raise_1 : decode cX6_raise 1 = .ok (.iconst 0, 1) := by decide +kernel
theorem dX6_raise_2 : decode cX6_raise 2 = .ok (.putfield 23, 3) := by decide +kernel
theorem dX6_raise_5 : decode cX6_raise 5 = .ok (.iload_n 1, 1) := by decide +kernel
theorem dX6_raise_6 : decode cX6_raise 6 = .ok (.ifCond .eq 11, 3) := by decide +kernel
theorem dX6_raise_9 : decode cX6_raise 9 = .ok (.aload_n 0, 1) := by decide +kernel
theorem dX6_raise_10 : decode cX6_raise 10 = .ok (.iconst 2, 1) := by decide +kernel
theorem dX6_raise_11 : decode cX6_raise 11 = .ok (.invokevirtual 36, 3) := by decide +kernel
theorem dX6_raise_14 : decode cX6_raise 14 = .ok (.goto 8, 3) := by decide +kernel
theorem dX6_raise_17 : decode cX6_raise 17 = .ok (.aload_n 0, 1) := by decide +kernel
theorem dX6_raise_18 : decode cX6_raise 18 = .ok (.iconst 1, 1) := by decide +kernel
theorem dX6_raise_19 : decode cX6_raise 19 = .ok (.invokevirtual 36, 3) := by decide +kernel
theorem dX6_raise_22 : decode cX6_raise 22 = .ok (.ireturn, 1) := by decide +kernel
theorem dL_read_0 : decode cL_read 0 = .ok (.aload 4, 2) := by decide +kernel
theorem dL_read_2 : decode cL_read 2 = .ok (.iconst 0, 1) := by decide +kernel
theorem dL_read_3 : decode cL_read 3 = .ok (.aload_n 0, 1) := by decide +kernel
theorem dL_read_4 : decode cL_read 4 = .ok (.iload_n 1, 1) := by decide +kernel
theorem dL_read_5 : decode cL_read 5 = .ok (.iload_n 2, 1) := by decide +kernel
theorem dL_read_6 : decode cL_read 6 = .ok (.iload_n 3, 1) := by decide +kernel
theorem dL_read_7 : decode cL_read 7 = .ok (.invokevirtual 7, 3) := by decide +kernel
theorem dL_read_10 : decode cL_read 10 = .ok (.lastore, 1) := by decide +kernel
theorem dL_read_11 : decode cL_read 11 = .ok (.goto 11, 3) := by decide +kernel
theorem dL_read_14 : decode cL_read 14 = .ok (.astore 5, 2) := by decide +kernel
theorem dL_read_16 : decode cL_read 16 = .ok (.iconst 1, 1) := by decide +kernel
theorem dL_read_17 : decode cL_read 17 = .ok (.ireturn, 1) := by decide +kernel
theorem dL_read_18 : decode cL_read 18 = .ok (.astore 5, 2) := by decide +kernel
theorem dL_read_20 : decode cL_read 20 = .ok (.iconst 2, 1) := by decide +kernel
theorem dL_read_21 : decode cL_read 21 = .ok (.ireturn, 1) := by decide +kernel
theorem dL_read_22 : decode cL_read 22 = .ok (.iconst 0, 1) := by decide +kernel
theorem dL_read_23 : decode cL_read 23 = .ok (.ireturn, 1) := by decide +kernel
theorem dL_write_0 : decode cL_write 0 = .ok (.aload 5, 2) := by decide +kernel
theorem dL_write_2 : decode cL_write 2 = .ok (.iconst 0, 1) := by decide +kernel
theorem dL_write_3 : decode cL_write 3 = .ok (.aload_n 0, 1) := by decide +kernel
theorem dL_write_4 : decode cL_write 4 = .ok (.iload_n 1, 1) := by decide +kernel
theorem dL_write_5 : decode cL_write 5 = .ok (.iload_n 2, 1) := by decide +kernel
theorem dL_write_6 : decode cL_write 6 = .ok (.iload_n 3, 1) := by decide +kernel
theorem dL_write_7 : decode cL_write 7 = .ok (.iload 4, 2) := by decide +kernel
theorem dL_write_9 : decode cL_write 9 = .ok (.invokevirtual 17, 3) := by decide +kernel
theorem dL_write_12 : decode cL_write 12 = .ok (.i2l, 1) := by decide +kernel
theorem dL_write_13 : decode cL_write 13 = .ok (.lastore, 1) := by decide +kernel
theorem dL_write_14 : decode cL_write 14 = .ok (.goto 11, 3) := by decide +kernel
theorem dL_write_17 : decode cL_write 17 = .ok (.astore 6, 2) := by decide +kernel
theorem dL_write_19 : decode cL_write 19 = .ok (.iconst 1, 1) := by decide +kernel
theorem dL_write_20 : decode cL_write 20 = .ok (.ireturn, 1) := by decide +kernel
theorem dL_write_21 : decode cL_write 21 = .ok (.astore 6, 2) := by decide +kernel
theorem dL_write_23 : decode cL_write 23 = .ok (.iconst 2, 1) := by decide +kernel
theorem dL_write_24 : decode cL_write 24 = .ok (.ireturn, 1) := by decide +kernel
theorem dL_write_25 : decode cL_write 25 = .ok (.iconst 0, 1) := by decide +kernel
theorem dL_write_26 : decode cL_write 26 = .ok (.ireturn, 1) := by decide +kernel
theorem dL_length_0 : decode cL_length 0 = .ok (.aload_n 3, 1) := by decide +kernel
theorem dL_length_1 : decode cL_length 1 = .ok (.iconst 0, 1) := by decide +kernel
theorem dL_length_2 : decode cL_length 2 = .ok (.aload_n 0, 1) := by decide +kernel
theorem dL_length_3 : decode cL_length 3 = .ok (.iload_n 1, 1) := by decide +kernel
theorem dL_length_4 : decode cL_length 4 = .ok (.iload_n 2, 1) := by decide +kernel
theorem dL_length_5 : decode cL_length 5 = .ok (.invokevirtual 21, 3) := by decide +kernel
theorem dL_length_8 : decode cL_length 8 = .ok (.i2l, 1) := by decide +kernel
theorem dL_length_9 : decode cL_length 9 = .ok (.lastore, 1) := by decide +kernel
theorem dL_length_10 : decode cL_length 10 = .ok (.goto 7, 3) := by decide +kernel
theorem dL_length_13 : decode cL_length 13 = .ok (.astore 4, 2) := by decide +kernel
theorem dL_length_15 : decode cL_length 15 = .ok (.iconst 1, 1) := by decide +kernel
theorem dL_length_16 : decode cL_length 16 = .ok (.ireturn, 1) := by decide +kernel
theorem dL_length_17 : decode cL_length 17 = .ok (.iconst 0, 1) := by decide +kernel
theorem dL_length_18 : decode cL_length 18 = .ok (.ireturn, 1) := by decide +kernel
theorem dL_make_0 : decode cL_make 0 = .ok (.aload_n 3, 1) := by decide +kernel
theorem dL_make_1 : decode cL_make 1 = .ok (.iconst 0, 1) := by decide +kernel
theorem dL_make_2 : decode cL_make 2 = .ok (.aload_n 0, 1) := by decide +kernel
theorem dL_make_3 : decode cL_make 3 = .ok (.iload_n 1, 1) := by decide +kernel
theorem dL_make_4 : decode cL_make 4 = .ok (.iload_n 2, 1) := by decide +kernel
theorem dL_make_5 : decode cL_make 5 = .ok (.invokevirtual 25, 3) := by decide +kernel
theorem dL_make_8 : decode cL_make 8 = .ok (.i2l, 1) := by decide +kernel
theorem dL_make_9 : decode cL_make 9 = .ok (.lastore, 1) := by decide +kernel
theorem dL_make_10 : decode cL_make 10 = .ok (.goto 7, 3) := by decide +kernel
theorem dL_make_13 : decode cL_make 13 = .ok (.astore 4, 2) := by decide +kernel
theorem dL_make_15 : decode cL_make 15 = .ok (.iconst 1, 1) := by decide +kernel
theorem dL_make_16 : decode cL_make 16 = .ok (.ireturn, 1) := by decide +kernel
theorem dL_make_17 : decode cL_make 17 = .ok (.iconst 0, 1) := by decide +kernel
theorem dL_make_18 : decode cL_make 18 = .ok (.ireturn, 1) := by decide +kernel
theorem dL_grid_0 : decode cL_grid 0 = .ok (.aload_n 3, 1) := by decide +kernel
theorem dL_grid_1 : decode cL_grid 1 = .ok (.iconst 0, 1) := by decide +kernel
theorem dL_grid_2 : decode cL_grid 2 = .ok (.aload_n 0, 1) := by decide +kernel
theorem dL_grid_3 : decode cL_grid 3 = .ok (.iload_n 1, 1) := by decide +kernel
theorem dL_grid_4 : decode cL_grid 4 = .ok (.iload_n 2, 1) := by decide +kernel
theorem dL_grid_5 : decode cL_grid 5 = .ok (.invokevirtual 31, 3) := by decide +kernel
theorem dL_grid_8 : decode cL_grid 8 = .ok (.i2l, 1) := by decide +kernel
theorem dL_grid_9 : decode cL_grid 9 = .ok (.lastore, 1) := by decide +kernel
theorem dL_grid_10 : decode cL_grid 10 = .ok (.goto 7, 3) := by decide +kernel
theorem dL_grid_13 : decode cL_grid 13 = .ok (.astore 4, 2) := by decide +kernel
theorem dL_grid_15 : decode cL_grid 15 = .ok (.iconst 1, 1) := by decide +kernel
theorem dL_grid_16 : decode cL_grid 16 = .ok (.ireturn, 1) := by decide +kernel
theorem dL_grid_17 : decode cL_grid 17 = .ok (.iconst 0, 1) := by decide +kernel
theorem dL_grid_18 : decode cL_grid 18 = .ok (.ireturn, 1) := by decide +kernel
theorem dL_cell_0 : decode cL_cell 0 = .ok (.aload_n 3, 1) := by decide +kernel
theorem dL_cell_1 : decode cL_cell 1 = .ok (.iconst 0, 1) := by decide +kernel
theorem dL_cell_2 : decode cL_cell 2 = .ok (.aload_n 0, 1) := by decide +kernel
theorem dL_cell_3 : decode cL_cell 3 = .ok (.iload_n 1, 1) := by decide +kernel
theorem dL_cell_4 : decode cL_cell 4 = .ok (.iload_n 2, 1) := by decide +kernel
theorem dL_cell_5 : decode cL_cell 5 = .ok (.invokevirtual 34, 3) := by decide +kernel
theorem dL_cell_8 : decode cL_cell 8 = .ok (.i2l, 1) := by decide +kernel
theorem dL_cell_9 : decode cL_cell 9 = .ok (.lastore, 1) := by decide +kernel
theorem dL_cell_10 : decode cL_cell 10 = .ok (.goto 11, 3) := by decide +kernel
theorem dL_cell_13 : decode cL_cell 13 = .ok (.astore 4, 2) := by decide +kernel
theorem dL_cell_15 : decode cL_cell 15 = .ok (.iconst 1, 1) := by decide +kernel
theorem dL_cell_16 : decode cL_cell 16 = .ok (.ireturn, 1) := by decide +kernel
theorem dL_cell_17 : decode cL_cell 17 = .ok (.astore 4, 2) := by decide +kernel
theorem dL_cell_19 : decode cL_cell 19 = .ok (.iconst 2, 1) := by decide +kernel
theorem dL_cell_20 : decode cL_cell 20 = .ok (.ireturn, 1) := by decide +kernel
theorem dL_cell_21 : decode cL_cell 21 = .ok (.iconst 0, 1) := by decide +kernel
theorem dL_cell_22 : decode cL_cell 22 = .ok (.ireturn, 1) := by decide +kernel
theorem dL_boxes_0 : decode cL_boxes 0 = .ok (.aload_n 3, 1) := by decide +kernel
theorem dL_boxes_1 : decode cL_boxes 1 = .ok (.iconst 0, 1) := by decide +kernel
theorem dL_boxes_2 : decode cL_boxes 2 = .ok (.aload_n 0, 1) := by decide +kernel
theorem dL_boxes_3 : decode cL_boxes 3 = .ok (.iload_n 1, 1) := by decide +kernel
theorem dL_boxes_4 : decode cL_boxes 4 = .ok (.iload_n 2, 1) := by decide +kernel
theorem dL_boxes_5 : decode cL_boxes 5 = .ok (.invokevirtual 37, 3) := by decide +kernel
theorem dL_boxes_8 : decode cL_boxes 8 = .ok (.i2l, 1) := by decide +kernel
theorem dL_boxes_9 : decode cL_boxes 9 = .ok (.lastore, 1) := by decide +kernel
theorem dL_boxes_10 : decode cL_boxes 10 = .ok (.goto 7, 3) := by decide +kernel
theorem dL_boxes_13 : decode cL_boxes 13 = .ok (.astore 4, 2) := by decide +kernel
theorem dL_boxes_15 : decode cL_boxes 15 = .ok (.iconst 1, 1) := by decide +kernel
theorem dL_boxes_16 : decode cL_boxes 16 = .ok (.ireturn, 1) := by decide +kernel
theorem dL_boxes_17 : decode cL_boxes 17 = .ok (.iconst 0, 1) := by decide +kernel
theorem dL_boxes_18 : decode cL_boxes 18 = .ok (.ireturn, 1) := by decide +kernel
theorem dL_put_0 : decode cL_put 0 = .ok (.aload 5, 2) := by decide +kernel
theorem dL_put_2 : decode cL_put 2 = .ok (.iconst 0, 1) := by decide +kernel
theorem dL_put_3 : decode cL_put 3 = .ok (.aload_n 0, 1) := by decide +kernel
theorem dL_put_4 : decode cL_put 4 = .ok (.iload_n 1, 1) := by decide +kernel
theorem dL_put_5 : decode cL_put 5 = .ok (.iload_n 2, 1) := by decide +kernel
theorem dL_put_6 : decode cL_put 6 = .ok (.iload_n 3, 1) := by decide +kernel
theorem dL_put_7 : decode cL_put 7 = .ok (.iload 4, 2) := by decide +kernel
theorem dL_put_9 : decode cL_put 9 = .ok (.invokevirtual 40, 3) := by decide +kernel
theorem dL_put_12 : decode cL_put 12 = .ok (.i2l, 1) := by decide +kernel
theorem dL_put_13 : decode cL_put 13 = .ok (.lastore, 1) := by decide +kernel
theorem dL_put_14 : decode cL_put 14 = .ok (.goto 15, 3) := by decide +kernel
theorem dL_put_17 : decode cL_put 17 = .ok (.astore 6, 2) := by decide +kernel
theorem dL_put_19 : decode cL_put 19 = .ok (.iconst 1, 1) := by decide +kernel
theorem dL_put_20 : decode cL_put 20 = .ok (.ireturn, 1) := by decide +kernel
theorem dL_put_21 : decode cL_put 21 = .ok (.astore 6, 2) := by decide +kernel
theorem dL_put_23 : decode cL_put 23 = .ok (.iconst 2, 1) := by decide +kernel
theorem dL_put_24 : decode cL_put 24 = .ok (.ireturn, 1) := by decide +kernel
theorem dL_put_25 : decode cL_put 25 = .ok (.astore 6, 2) := by decide +kernel
theorem dL_put_27 : decode cL_put 27 = .ok (.iconst 3, 1) := by decide +kernel
theorem dL_put_28 : decode cL_put 28 = .ok (.ireturn, 1) := by decide +kernel
theorem dL_put_29 : decode cL_put 29 = .ok (.iconst 0, 1) := by decide +kernel
theorem dL_put_30 : decode cL_put 30 = .ok (.ireturn, 1) := by decide +kernel
theorem dL_value_0 : decode cL_value 0 = .ok (.aload_n 2, 1) := by decide +kernel
theorem dL_value_1 : decode cL_value 1 = .ok (.iconst 0, 1) := by decide +kernel
theorem dL_value_2 : decode cL_value 2 = .ok (.aload_n 0, 1) := by decide +kernel
theorem dL_value_3 : decode cL_value 3 = .ok (.iload_n 1, 1) := by decide +kernel
theorem dL_value_4 : decode cL_value 4 = .ok (.invokevirtual 46, 3) := by decide +kernel
theorem dL_value_7 : decode cL_value 7 = .ok (.i2l, 1) := by decide +kernel
theorem dL_value_8 : decode cL_value 8 = .ok (.lastore, 1) := by decide +kernel
theorem dL_value_9 : decode cL_value 9 = .ok (.goto 9, 3) := by decide +kernel
theorem dL_value_12 : decode cL_value 12 = .ok (.astore_n 3, 1) := by decide +kernel
theorem dL_value_13 : decode cL_value 13 = .ok (.iconst 1, 1) := by decide +kernel
theorem dL_value_14 : decode cL_value 14 = .ok (.ireturn, 1) := by decide +kernel
theorem dL_value_15 : decode cL_value 15 = .ok (.astore_n 3, 1) := by decide +kernel
theorem dL_value_16 : decode cL_value 16 = .ok (.iconst 2, 1) := by decide +kernel
theorem dL_value_17 : decode cL_value 17 = .ok (.ireturn, 1) := by decide +kernel
theorem dL_value_18 : decode cL_value 18 = .ok (.iconst 0, 1) := by decide +kernel
theorem dL_value_19 : decode cL_value 19 = .ok (.ireturn, 1) := by decide +kernel
theorem dL_change_0 : decode cL_change 0 = .ok (.aload_n 3, 1) := by decide +kernel
theorem dL_change_1 : decode cL_change 1 = .ok (.iconst 0, 1) := by decide +kernel
theorem dL_change_2 : decode cL_change 2 = .ok (.aload_n 0, 1) := by decide +kernel
theorem dL_change_3 : decode cL_change 3 = .ok (.iload_n 1, 1) := by decide +kernel
theorem dL_change_4 : decode cL_change 4 = .ok (.iload_n 2, 1) := by decide +kernel
theorem dL_change_5 : decode cL_change 5 = .ok (.invokevirtual 50, 3) := by decide +kernel
theorem dL_change_8 : decode cL_change 8 = .ok (.i2l, 1) := by decide +kernel
theorem dL_change_9 : decode cL_change 9 = .ok (.lastore, 1) := by decide +kernel
theorem dL_change_10 : decode cL_change 10 = .ok (.goto 11, 3) := by decide +kernel
theorem dL_change_13 : decode cL_change 13 = .ok (.astore 4, 2) := by decide +kernel
theorem dL_change_15 : decode cL_change 15 = .ok (.iconst 1, 1) := by decide +kernel
theorem dL_change_16 : decode cL_change 16 = .ok (.ireturn, 1) := by decide +kernel
theorem dL_change_17 : decode cL_change 17 = .ok (.astore 4, 2) := by decide +kernel
theorem dL_change_19 : decode cL_change 19 = .ok (.iconst 2, 1) := by decide +kernel
theorem dL_change_20 : decode cL_change 20 = .ok (.ireturn, 1) := by decide +kernel
theorem dL_change_21 : decode cL_change 21 = .ok (.iconst 0, 1) := by decide +kernel
theorem dL_change_22 : decode cL_change 22 = .ok (.ireturn, 1) := by decide +kernel
theorem dL_weigh_0 : decode cL_weigh 0 = .ok (.aload_n 3, 1) := by decide +kernel
theorem dL_weigh_1 : decode cL_weigh 1 = .ok (.iconst 0, 1) := by decide +kernel
theorem dL_weigh_2 : decode cL_weigh 2 = .ok (.aload_n 0, 1) := by decide +kernel
theorem dL_weigh_3 : decode cL_weigh 3 = .ok (.iload_n 1, 1) := by decide +kernel
theorem dL_weigh_4 : decode cL_weigh 4 = .ok (.iload_n 2, 1) := by decide +kernel
theorem dL_weigh_5 : decode cL_weigh 5 = .ok (.invokevirtual 53, 3) := by decide +kernel
theorem dL_weigh_8 : decode cL_weigh 8 = .ok (.i2l, 1) := by decide +kernel
theorem dL_weigh_9 : decode cL_weigh 9 = .ok (.lastore, 1) := by decide +kernel
theorem dL_weigh_10 : decode cL_weigh 10 = .ok (.goto 11, 3) := by decide +kernel
theorem dL_weigh_13 : decode cL_weigh 13 = .ok (.astore 4, 2) := by decide +kernel
theorem dL_weigh_15 : decode cL_weigh 15 = .ok (.iconst 1, 1) := by decide +kernel
theorem dL_weigh_16 : decode cL_weigh 16 = .ok (.ireturn, 1) := by decide +kernel
theorem dL_weigh_17 : decode cL_weigh 17 = .ok (.astore 4, 2) := by decide +kernel
theorem dL_weigh_19 : decode cL_weigh 19 = .ok (.iconst 2, 1) := by decide +kernel
theorem dL_weigh_20 : decode cL_weigh 20 = .ok (.ireturn, 1) := by decide +kernel
theorem dL_weigh_21 : decode cL_weigh 21 = .ok (.iconst 0, 1) := by decide +kernel
theorem dL_weigh_22 : decode cL_weigh 22 = .ok (.ireturn, 1) := by decide +kernel
theorem dL_roll_0 : decode cL_roll 0 = .ok (.aload_n 3, 1) := by decide +kernel
theorem dL_roll_1 : decode cL_roll 1 = .ok (.iconst 0, 1) := by decide +kernel
theorem dL_roll_2 : decode cL_roll 2 = .ok (.aload_n 0, 1) := by decide +kernel
theorem dL_roll_3 : decode cL_roll 3 = .ok (.iload_n 1, 1) := by decide +kernel
theorem dL_roll_4 : decode cL_roll 4 = .ok (.iload_n 2, 1) := by decide +kernel
theorem dL_roll_5 : decode cL_roll 5 = .ok (.invokevirtual 56, 3) := by decide +kernel
theorem dL_roll_8 : decode cL_roll 8 = .ok (.i2l, 1) := by decide +kernel
theorem dL_roll_9 : decode cL_roll 9 = .ok (.lastore, 1) := by decide +kernel
theorem dL_roll_10 : decode cL_roll 10 = .ok (.goto 15, 3) := by decide +kernel
theorem dL_roll_13 : decode cL_roll 13 = .ok (.astore 4, 2) := by decide +kernel
theorem dL_roll_15 : decode cL_roll 15 = .ok (.iconst 1, 1) := by decide +kernel
theorem dL_roll_16 : decode cL_roll 16 = .ok (.ireturn, 1) := by decide +kernel
theorem dL_roll_17 : decode cL_roll 17 = .ok (.astore 4, 2) := by decide +kernel
theorem dL_roll_19 : decode cL_roll 19 = .ok (.iconst 2, 1) := by decide +kernel
theorem dL_roll_20 : decode cL_roll 20 = .ok (.ireturn, 1) := by decide +kernel
theorem dL_roll_21 : decode cL_roll 21 = .ok (.astore 4, 2) := by decide +kernel
theorem dL_roll_23 : decode cL_roll 23 = .ok (.iconst 3, 1) := by decide +kernel
theorem dL_roll_24 : decode cL_roll 24 = .ok (.ireturn, 1) := by decide +kernel
theorem dL_roll_25 : decode cL_roll 25 = .ok (.iconst 0, 1) := by decide +kernel
theorem dL_roll_26 : decode cL_roll 26 = .ok (.ireturn, 1) := by decide +kernel
theorem dL_divide_0 : decode cL_divide 0 = .ok (.aload 4, 2) := by decide +kernel
theorem dL_divide_2 : decode cL_divide 2 = .ok (.iconst 0, 1) := by decide +kernel
theorem dL_divide_3 : decode cL_divide 3 = .ok (.aload_n 0, 1) := by decide +kernel
theorem dL_divide_4 : decode cL_divide 4 = .ok (.iload_n 1, 1) := by decide +kernel
theorem dL_divide_5 : decode cL_divide 5 = .ok (.iload_n 2, 1) := by decide +kernel
theorem dL_divide_6 : decode cL_divide 6 = .ok (.iload_n 3, 1) := by decide +kernel
theorem dL_divide_7 : decode cL_divide 7 = .ok (.invokevirtual 61, 3) := by decide +kernel
theorem dL_divide_10 : decode cL_divide 10 = .ok (.i2l, 1) := by decide +kernel
theorem dL_divide_11 : decode cL_divide 11 = .ok (.lastore, 1) := by decide +kernel
theorem dL_divide_12 : decode cL_divide 12 = .ok (.goto 7, 3) := by decide +kernel
theorem dL_divide_15 : decode cL_divide 15 = .ok (.astore 5, 2) := by decide +kernel
theorem dL_divide_17 : decode cL_divide 17 = .ok (.iconst 1, 1) := by decide +kernel
theorem dL_divide_18 : decode cL_divide 18 = .ok (.ireturn, 1) := by decide +kernel
theorem dL_divide_19 : decode cL_divide 19 = .ok (.iconst 0, 1) := by decide +kernel
theorem dL_divide_20 : decode cL_divide 20 = .ok (.ireturn, 1) := by decide +kernel
theorem dL_divideLong_0 : decode cL_divideLong 0 = .ok (.aload 6, 2) := by decide +kernel
theorem dL_divideLong_2 : decode cL_divideLong 2 = .ok (.iconst 0, 1) := by decide +kernel
theorem dL_divideLong_3 : decode cL_divideLong 3 = .ok (.aload_n 0, 1) := by decide +kernel
theorem dL_divideLong_4 : decode cL_divideLong 4 = .ok (.lload_n 1, 1) := by decide +kernel
theorem dL_divideLong_5 : decode cL_divideLong 5 = .ok (.lload_n 3, 1) := by decide +kernel
theorem dL_divideLong_6 : decode cL_divideLong 6 = .ok (.iload 5, 2) := by decide +kernel
theorem dL_divideLong_8 : decode cL_divideLong 8 = .ok (.invokevirtual 67, 3) := by decide +kernel
theorem dL_divideLong_11 : decode cL_divideLong 11 = .ok (.lastore, 1) := by decide +kernel
theorem dL_divideLong_12 : decode cL_divideLong 12 = .ok (.goto 7, 3) := by decide +kernel
theorem dL_divideLong_15 : decode cL_divideLong 15 = .ok (.astore 7, 2) := by decide +kernel
theorem dL_divideLong_17 : decode cL_divideLong 17 = .ok (.iconst 1, 1) := by decide +kernel
theorem dL_divideLong_18 : decode cL_divideLong 18 = .ok (.ireturn, 1) := by decide +kernel
theorem dL_divideLong_19 : decode cL_divideLong 19 = .ok (.iconst 0, 1) := by decide +kernel
theorem dL_divideLong_20 : decode cL_divideLong 20 = .ok (.ireturn, 1) := by decide +kernel
theorem dL_raise_0 : decode cL_raise 0 = .ok (.aload_n 2, 1) := by decide +kernel
theorem dL_raise_1 : decode cL_raise 1 = .ok (.iconst 0, 1) := by decide +kernel
theorem dL_raise_2 : decode cL_raise 2 = .ok (.aload_n 0, 1) := by decide +kernel
theorem dL_raise_3 : decode cL_raise 3 = .ok (.iload_n 1, 1) := by decide +kernel
theorem dL_raise_4 : decode cL_raise 4 = .ok (.invokevirtual 71, 3) := by decide +kernel
theorem dL_raise_7 : decode cL_raise 7 = .ok (.i2l, 1) := by decide +kernel
theorem dL_raise_8 : decode cL_raise 8 = .ok (.lastore, 1) := by decide +kernel
theorem dL_raise_9 : decode cL_raise 9 = .ok (.goto 9, 3) := by decide +kernel
theorem dL_raise_12 : decode cL_raise 12 = .ok (.astore_n 3, 1) := by decide +kernel
theorem dL_raise_13 : decode cL_raise 13 = .ok (.iconst 1, 1) := by decide +kernel
theorem dL_raise_14 : decode cL_raise 14 = .ok (.ireturn, 1) := by decide +kernel
theorem dL_raise_15 : decode cL_raise 15 = .ok (.astore_n 3, 1) := by decide +kernel
theorem dL_raise_16 : decode cL_raise 16 = .ok (.iconst 2, 1) := by decide +kernel
theorem dL_raise_17 : decode cL_raise 17 = .ok (.ireturn, 1) := by decide +kernel
theorem dL_raise_18 : decode cL_raise 18 = .ok (.iconst 0, 1) := by decide +kernel
theorem dL_raise_19 : decode cL_raise 19 = .ok (.ireturn, 1) := by decide +kernel
end
section
theorem dL_law_0 : decode cL_law 0 = .ok (.new 8, 3) := by decide +kernel
theorem dL_law_3 : decode cL_law 3 = .ok (.dup, 1) := by decide +kernel
theorem dL_law_4 : decode cL_law 4 = .ok (.invokespecial 75, 3) := by decide +kernel
theorem dL_law_7 : decode cL_law 7 = .ok (.astore_n 1, 1) := by decide +kernel
theorem dL_law_8 : decode cL_law 8 = .ok (.new 76, 3) := by decide +kernel
theorem dL_law_11 : decode cL_law 11 = .ok (.dup, 1) := by decide +kernel
theorem dL_law_12 : decode cL_law 12 = .ok (.invokespecial 78, 3) := by decide +kernel
theorem dL_law_15 : decode cL_law 15 = .ok (.astore_n 2, 1) := by decide +kernel
theorem dL_law_16 : decode cL_law 16 = .ok (.iconst 1, 1) := by decide +kernel
theorem dL_law_17 : decode cL_law 17 = .ok (.newarray .long, 2) := by decide +kernel
theorem dL_law_19 : decode cL_law 19 = .ok (.astore_n 3, 1) := by decide +kernel
theorem dL_law_20 : decode cL_law 20 = .ok (.iconst 0, 1) := by decide +kernel
theorem dL_law_21 : decode cL_law 21 = .ok (.istore 4, 2) := by decide +kernel
theorem dL_law_23 : decode cL_law 23 = .ok (.iload 4, 2) := by decide +kernel
theorem dL_law_25 : decode cL_law 25 = .ok (.aload_n 0, 1) := by decide +kernel
theorem dL_law_26 : decode cL_law 26 = .ok (.arraylength, 1) := by decide +kernel
theorem dL_law_27 : decode cL_law 27 = .ok (.bipush 6, 2) := by decide +kernel
theorem dL_law_29 : decode cL_law 29 = .ok (.isub, 1) := by decide +kernel
theorem dL_law_30 : decode cL_law 30 = .ok (.if_icmp .gt 1362, 3) := by decide +kernel
theorem dL_law_33 : decode cL_law 33 = .ok (.aload_n 0, 1) := by decide +kernel
theorem dL_law_34 : decode cL_law 34 = .ok (.iload 4, 2) := by decide +kernel
theorem dL_law_36 : decode cL_law 36 = .ok (.iaload, 1) := by decide +kernel
theorem dL_law_37 : decode cL_law 37 = .ok (.bipush 15, 2) := by decide +kernel
theorem dL_law_39 : decode cL_law 39 = .ok (.iand, 1) := by decide +kernel
theorem dL_law_40 : decode cL_law 40 = .ok (.tableswitch 1346 0 14 #[76, 171, 279, 363, 431, 499, 567, 651, 759, 815, 883, 951, 1019, 1115, 1274], 76) := by decide +kernel
theorem dL_law_116 : decode cL_law 116 = .ok (.aload_n 1, 1) := by decide +kernel
theorem dL_law_117 : decode cL_law 117 = .ok (.aload_n 0, 1) := by decide +kernel
theorem dL_law_118 : decode cL_law 118 = .ok (.iload 4, 2) := by decide +kernel
theorem dL_law_120 : decode cL_law 120 = .ok (.iconst 1, 1) := by decide +kernel
theorem dL_law_121 : decode cL_law 121 = .ok (.iadd, 1) := by decide +kernel
theorem dL_law_122 : decode cL_law 122 = .ok (.iaload, 1) := by decide +kernel
theorem dL_law_123 : decode cL_law 123 = .ok (.aload_n 0, 1) := by decide +kernel
theorem dL_law_124 : decode cL_law 124 = .ok (.iload 4, 2) := by decide +kernel
theorem dL_law_126 : decode cL_law 126 = .ok (.iconst 2, 1) := by decide +kernel
theorem dL_law_127 : decode cL_law 127 = .ok (.iadd, 1) := by decide +kernel
theorem dL_law_128 : decode cL_law 128 = .ok (.iaload, 1) := by decide +kernel
theorem dL_law_129 : decode cL_law 129 = .ok (.ifCond .eq 7, 3) := by decide +kernel
theorem dL_law_132 : decode cL_law 132 = .ok (.iconst 1, 1) := by decide +kernel
theorem dL_law_133 : decode cL_law 133 = .ok (.goto 4, 3) := by decide +kernel
theorem dL_law_136 : decode cL_law 136 = .ok (.iconst 0, 1) := by decide +kernel
theorem dL_law_137 : decode cL_law 137 = .ok (.aload_n 0, 1) := by decide +kernel
theorem dL_law_138 : decode cL_law 138 = .ok (.iload 4, 2) := by decide +kernel
theorem dL_law_140 : decode cL_law 140 = .ok (.iconst 3, 1) := by decide +kernel
theorem dL_law_141 : decode cL_law 141 = .ok (.iadd, 1) := by decide +kernel
theorem dL_law_142 : decode cL_law 142 = .ok (.iaload, 1) := by decide +kernel
theorem dL_law_143 : decode cL_law 143 = .ok (.aload_n 3, 1) := by decide +kernel
theorem dL_law_144 : decode cL_law 144 = .ok (.invokestatic 79, 3) := by decide +kernel
theorem dL_law_147 : decode cL_law 147 = .ok (.istore 5, 2) := by decide +kernel
theorem dL_law_149 : decode cL_law 149 = .ok (.aload_n 2, 1) := by decide +kernel
theorem dL_law_150 : decode cL_law 150 = .ok (.aload_n 0, 1) := by decide +kernel
theorem dL_law_151 : decode cL_law 151 = .ok (.iload 4, 2) := by decide +kernel
theorem dL_law_153 : decode cL_law 153 = .ok (.iconst 1, 1) := by decide +kernel
theorem dL_law_154 : decode cL_law 154 = .ok (.iadd, 1) := by decide +kernel
theorem dL_law_155 : decode cL_law 155 = .ok (.iaload, 1) := by decide +kernel
theorem dL_law_156 : decode cL_law 156 = .ok (.aload_n 0, 1) := by decide +kernel
theorem dL_law_157 : decode cL_law 157 = .ok (.iload 4, 2) := by decide +kernel
theorem dL_law_159 : decode cL_law 159 = .ok (.iconst 2, 1) := by decide +kernel
theorem dL_law_160 : decode cL_law 160 = .ok (.iadd, 1) := by decide +kernel
theorem dL_law_161 : decode cL_law 161 = .ok (.iaload, 1) := by decide +kernel
theorem dL_law_162 : decode cL_law 162 = .ok (.ifCond .eq 7, 3) := by decide +kernel
theorem dL_law_165 : decode cL_law 165 = .ok (.iconst 1, 1) := by decide +kernel
theorem dL_law_166 : decode cL_law 166 = .ok (.goto 4, 3) := by decide +kernel
theorem dL_law_169 : decode cL_law 169 = .ok (.iconst 0, 1) := by decide +kernel
theorem dL_law_170 : decode cL_law 170 = .ok (.aload_n 0, 1) := by decide +kernel
theorem dL_law_171 : decode cL_law 171 = .ok (.iload 4, 2) := by decide +kernel
theorem dL_law_173 : decode cL_law 173 = .ok (.iconst 3, 1) := by decide +kernel
theorem dL_law_174 : decode cL_law 174 = .ok (.iadd, 1) := by decide +kernel
theorem dL_law_175 : decode cL_law 175 = .ok (.iaload, 1) := by decide +kernel
theorem dL_law_176 : decode cL_law 176 = .ok (.invokevirtual 84, 3) := by decide +kernel
theorem dL_law_179 : decode cL_law 179 = .ok (.lstore 6, 2) := by decide +kernel
theorem dL_law_181 : decode cL_law 181 = .ok (.aload_n 2, 1) := by decide +kernel
theorem dL_law_182 : decode cL_law 182 = .ok (.invokevirtual 85, 3) := by decide +kernel
theorem dL_law_185 : decode cL_law 185 = .ok (.iload 5, 2) := by decide +kernel
theorem dL_law_187 : decode cL_law 187 = .ok (.if_icmp .eq 5, 3) := by decide +kernel
theorem dL_law_190 : decode cL_law 190 = .ok (.iconst 0, 1) := by decide +kernel
theorem dL_law_191 : decode cL_law 191 = .ok (.ireturn, 1) := by decide +kernel
theorem dL_law_192 : decode cL_law 192 = .ok (.iload 5, 2) := by decide +kernel
theorem dL_law_194 : decode cL_law 194 = .ok (.ifCond .ne 14, 3) := by decide +kernel
theorem dL_law_197 : decode cL_law 197 = .ok (.aload_n 3, 1) := by decide +kernel
theorem dL_law_198 : decode cL_law 198 = .ok (.iconst 0, 1) := by decide +kernel
theorem dL_law_199 : decode cL_law 199 = .ok (.laload, 1) := by decide +kernel
theorem dL_law_200 : decode cL_law 200 = .ok (.lload 6, 2) := by decide +kernel
theorem dL_law_202 : decode cL_law 202 = .ok (.lcmp, 1) := by decide +kernel
theorem dL_law_203 : decode cL_law 203 = .ok (.ifCond .eq 5, 3) := by decide +kernel
theorem dL_law_206 : decode cL_law 206 = .ok (.iconst 0, 1) := by decide +kernel
theorem dL_law_207 : decode cL_law 207 = .ok (.ireturn, 1) := by decide +kernel
theorem dL_law_208 : decode cL_law 208 = .ok (.goto 1178, 3) := by decide +kernel
theorem dL_law_211 : decode cL_law 211 = .ok (.aload_n 1, 1) := by decide +kernel
theorem dL_law_212 : decode cL_law 212 = .ok (.aload_n 0, 1) := by decide +kernel
theorem dL_law_213 : decode cL_law 213 = .ok (.iload 4, 2) := by decide +kernel
theorem dL_law_215 : decode cL_law 215 = .ok (.iconst 1, 1) := by decide +kernel
theorem dL_law_216 : decode cL_law 216 = .ok (.iadd, 1) := by decide +kernel
theorem dL_law_217 : decode cL_law 217 = .ok (.iaload, 1) := by decide +kernel
theorem dL_law_218 : decode cL_law 218 = .ok (.aload_n 0, 1) := by decide +kernel
theorem dL_law_219 : decode cL_law 219 = .ok (.iload 4, 2) := by decide +kernel
theorem dL_law_221 : decode cL_law 221 = .ok (.iconst 2, 1) := by decide +kernel
theorem dL_law_222 : decode cL_law 222 = .ok (.iadd, 1) := by decide +kernel
theorem dL_law_223 : decode cL_law 223 = .ok (.iaload, 1) := by decide +kernel
theorem dL_law_224 : decode cL_law 224 = .ok (.ifCond .eq 7, 3) := by decide +kernel
theorem dL_law_227 : decode cL_law 227 = .ok (.iconst 1, 1) := by decide +kernel
theorem dL_law_228 : decode cL_law 228 = .ok (.goto 4, 3) := by decide +kernel
theorem dL_law_231 : decode cL_law 231 = .ok (.iconst 0, 1) := by decide +kernel
theorem dL_law_232 : decode cL_law 232 = .ok (.aload_n 0, 1) := by decide +kernel
theorem dL_law_233 : decode cL_law 233 = .ok (.iload 4, 2) := by decide +kernel
theorem dL_law_235 : decode cL_law 235 = .ok (.iconst 3, 1) := by decide +kernel
theorem dL_law_236 : decode cL_law 236 = .ok (.iadd, 1) := by decide +kernel
theorem dL_law_237 : decode cL_law 237 = .ok (.iaload, 1) := by decide +kernel
theorem dL_law_238 : decode cL_law 238 = .ok (.aload_n 0, 1) := by decide +kernel
theorem dL_law_239 : decode cL_law 239 = .ok (.iload 4, 2) := by decide +kernel
theorem dL_law_241 : decode cL_law 241 = .ok (.iconst 4, 1) := by decide +kernel
theorem dL_law_242 : decode cL_law 242 = .ok (.iadd, 1) := by decide +kernel
theorem dL_law_243 : decode cL_law 243 = .ok (.iaload, 1) := by decide +kernel
theorem dL_law_244 : decode cL_law 244 = .ok (.aload_n 3, 1) := by decide +kernel
theorem dL_law_245 : decode cL_law 245 = .ok (.invokestatic 89, 3) := by decide +kernel
theorem dL_law_248 : decode cL_law 248 = .ok (.istore 5, 2) := by decide +kernel
theorem dL_law_250 : decode cL_law 250 = .ok (.aload_n 2, 1) := by decide +kernel
theorem dL_law_251 : decode cL_law 251 = .ok (.aload_n 0, 1) := by decide +kernel
theorem dL_law_252 : decode cL_law 252 = .ok (.iload 4, 2) := by decide +kernel
theorem dL_law_254 : decode cL_law 254 = .ok (.iconst 1, 1) := by decide +kernel
theorem dL_law_255 : decode cL_law 255 = .ok (.iadd, 1) := by decide +kernel
theorem dL_law_256 : decode cL_law 256 = .ok (.iaload, 1) := by decide +kernel
theorem dL_law_257 : decode cL_law 257 = .ok (.aload_n 0, 1) := by decide +kernel
theorem dL_law_258 : decode cL_law 258 = .ok (.iload 4, 2) := by decide +kernel
theorem dL_law_260 : decode cL_law 260 = .ok (.iconst 2, 1) := by decide +kernel
theorem dL_law_261 : decode cL_law 261 = .ok (.iadd, 1) := by decide +kernel
theorem dL_law_262 : decode cL_law 262 = .ok (.iaload, 1) := by decide +kernel
theorem dL_law_263 : decode cL_law 263 = .ok (.ifCond .eq 7, 3) := by decide +kernel
theorem dL_law_266 : decode cL_law 266 = .ok (.iconst 1, 1) := by decide +kernel
theorem dL_law_267 : decode cL_law 267 = .ok (.goto 4, 3) := by decide +kernel
theorem dL_law_270 : decode cL_law 270 = .ok (.iconst 0, 1) := by decide +kernel
theorem dL_law_271 : decode cL_law 271 = .ok (.aload_n 0, 1) := by decide +kernel
theorem dL_law_272 : decode cL_law 272 = .ok (.iload 4, 2) := by decide +kernel
theorem dL_law_274 : decode cL_law 274 = .ok (.iconst 3, 1) := by decide +kernel
theorem dL_law_275 : decode cL_law 275 = .ok (.iadd, 1) := by decide +kernel
theorem dL_law_276 : decode cL_law 276 = .ok (.iaload, 1) := by decide +kernel
theorem dL_law_277 : decode cL_law 277 = .ok (.aload_n 0, 1) := by decide +kernel
theorem dL_law_278 : decode cL_law 278 = .ok (.iload 4, 2) := by decide +kernel
theorem dL_law_280 : decode cL_law 280 = .ok (.iconst 4, 1) := by decide +kernel
theorem dL_law_281 : decode cL_law 281 = .ok (.iadd, 1) := by decide +kernel
theorem dL_law_282 : decode cL_law 282 = .ok (.iaload, 1) := by decide +kernel
theorem dL_law_283 : decode cL_law 283 = .ok (.invokevirtual 92, 3) := by decide +kernel
theorem dL_law_286 : decode cL_law 286 = .ok (.istore 6, 2) := by decide +kernel
theorem dL_law_288 : decode cL_law 288 = .ok (.aload_n 2, 1) := by decide +kernel
theorem dL_law_289 : decode cL_law 289 = .ok (.invokevirtual 85, 3) := by decide +kernel
theorem dL_law_292 : decode cL_law 292 = .ok (.iload 5, 2) := by decide +kernel
theorem dL_law_294 : decode cL_law 294 = .ok (.if_icmp .eq 5, 3) := by decide +kernel
theorem dL_law_297 : decode cL_law 297 = .ok (.iconst 0, 1) := by decide +kernel
theorem dL_law_298 : decode cL_law 298 = .ok (.ireturn, 1) := by decide +kernel
theorem dL_law_299 : decode cL_law 299 = .ok (.iload 5, 2) := by decide +kernel
theorem dL_law_301 : decode cL_law 301 = .ok (.ifCond .ne 15, 3) := by decide +kernel
theorem dL_law_304 : decode cL_law 304 = .ok (.aload_n 3, 1) := by decide +kernel
theorem dL_law_305 : decode cL_law 305 = .ok (.iconst 0, 1) := by decide +kernel
theorem dL_law_306 : decode cL_law 306 = .ok (.laload, 1) := by decide +kernel
theorem dL_law_307 : decode cL_law 307 = .ok (.iload 6, 2) := by decide +kernel
theorem dL_law_309 : decode cL_law 309 = .ok (.i2l, 1) := by decide +kernel
theorem dL_law_310 : decode cL_law 310 = .ok (.lcmp, 1) := by decide +kernel
theorem dL_law_311 : decode cL_law 311 = .ok (.ifCond .eq 5, 3) := by decide +kernel
theorem dL_law_314 : decode cL_law 314 = .ok (.iconst 0, 1) := by decide +kernel
theorem dL_law_315 : decode cL_law 315 = .ok (.ireturn, 1) := by decide +kernel
theorem dL_law_316 : decode cL_law 316 = .ok (.goto 1070, 3) := by decide +kernel
theorem dL_law_319 : decode cL_law 319 = .ok (.aload_n 1, 1) := by decide +kernel
theorem dL_law_320 : decode cL_law 320 = .ok (.aload_n 0, 1) := by decide +kernel
theorem dL_law_321 : decode cL_law 321 = .ok (.iload 4, 2) := by decide +kernel
theorem dL_law_323 : decode cL_law 323 = .ok (.iconst 1, 1) := by decide +kernel
theorem dL_law_324 : decode cL_law 324 = .ok (.iadd, 1) := by decide +kernel
theorem dL_law_325 : decode cL_law 325 = .ok (.iaload, 1) := by decide +kernel
theorem dL_law_326 : decode cL_law 326 = .ok (.aload_n 0, 1) := by decide +kernel
theorem dL_law_327 : decode cL_law 327 = .ok (.iload 4, 2) := by decide +kernel
theorem dL_law_329 : decode cL_law 329 = .ok (.iconst 2, 1) := by decide +kernel
theorem dL_law_330 : decode cL_law 330 = .ok (.iadd, 1) := by decide +kernel
theorem dL_law_331 : decode cL_law 331 = .ok (.iaload, 1) := by decide +kernel
theorem dL_law_332 : decode cL_law 332 = .ok (.ifCond .eq 7, 3) := by decide +kernel
theorem dL_law_335 : decode cL_law 335 = .ok (.iconst 1, 1) := by decide +kernel
theorem dL_law_336 : decode cL_law 336 = .ok (.goto 4, 3) := by decide +kernel
theorem dL_law_339 : decode cL_law 339 = .ok (.iconst 0, 1) := by decide +kernel
theorem dL_law_340 : decode cL_law 340 = .ok (.aload_n 3, 1) := by decide +kernel
theorem dL_law_341 : decode cL_law 341 = .ok (.invokestatic 93, 3) := by decide +kernel
theorem dL_law_344 : decode cL_law 344 = .ok (.istore 5, 2) := by decide +kernel
theorem dL_law_346 : decode cL_law 346 = .ok (.aload_n 2, 1) := by decide +kernel
theorem dL_law_347 : decode cL_law 347 = .ok (.aload_n 0, 1) := by decide +kernel
theorem dL_law_348 : decode cL_law 348 = .ok (.iload 4, 2) := by decide +kernel
theorem dL_law_350 : decode cL_law 350 = .ok (.iconst 1, 1) := by decide +kernel
theorem dL_law_351 : decode cL_law 351 = .ok (.iadd, 1) := by decide +kernel
theorem dL_law_352 : decode cL_law 352 = .ok (.iaload, 1) := by decide +kernel
theorem dL_law_353 : decode cL_law 353 = .ok (.aload_n 0, 1) := by decide +kernel
theorem dL_law_354 : decode cL_law 354 = .ok (.iload 4, 2) := by decide +kernel
theorem dL_law_356 : decode cL_law 356 = .ok (.iconst 2, 1) := by decide +kernel
theorem dL_law_357 : decode cL_law 357 = .ok (.iadd, 1) := by decide +kernel
theorem dL_law_358 : decode cL_law 358 = .ok (.iaload, 1) := by decide +kernel
theorem dL_law_359 : decode cL_law 359 = .ok (.ifCond .eq 7, 3) := by decide +kernel
theorem dL_law_362 : decode cL_law 362 = .ok (.iconst 1, 1) := by decide +kernel
theorem dL_law_363 : decode cL_law 363 = .ok (.goto 4, 3) := by decide +kernel
theorem dL_law_366 : decode cL_law 366 = .ok (.iconst 0, 1) := by decide +kernel
theorem dL_law_367 : decode cL_law 367 = .ok (.invokevirtual 96, 3) := by decide +kernel
theorem dL_law_370 : decode cL_law 370 = .ok (.istore 6, 2) := by decide +kernel
theorem dL_law_372 : decode cL_law 372 = .ok (.aload_n 2, 1) := by decide +kernel
theorem dL_law_373 : decode cL_law 373 = .ok (.invokevirtual 85, 3) := by decide +kernel
theorem dL_law_376 : decode cL_law 376 = .ok (.iload 5, 2) := by decide +kernel
theorem dL_law_378 : decode cL_law 378 = .ok (.if_icmp .eq 5, 3) := by decide +kernel
theorem dL_law_381 : decode cL_law 381 = .ok (.iconst 0, 1) := by decide +kernel
theorem dL_law_382 : decode cL_law 382 = .ok (.ireturn, 1) := by decide +kernel
theorem dL_law_383 : decode cL_law 383 = .ok (.iload 5, 2) := by decide +kernel
theorem dL_law_385 : decode cL_law 385 = .ok (.ifCond .ne 15, 3) := by decide +kernel
theorem dL_law_388 : decode cL_law 388 = .ok (.aload_n 3, 1) := by decide +kernel
theorem dL_law_389 : decode cL_law 389 = .ok (.iconst 0, 1) := by decide +kernel
theorem dL_law_390 : decode cL_law 390 = .ok (.laload, 1) := by decide +kernel
theorem dL_law_391 : decode cL_law 391 = .ok (.iload 6, 2) := by decide +kernel
theorem dL_law_393 : decode cL_law 393 = .ok (.i2l, 1) := by decide +kernel
theorem dL_law_394 : decode cL_law 394 = .ok (.lcmp, 1) := by decide +kernel
theorem dL_law_395 : decode cL_law 395 = .ok (.ifCond .eq 5, 3) := by decide +kernel
theorem dL_law_398 : decode cL_law 398 = .ok (.iconst 0, 1) := by decide +kernel
theorem dL_law_399 : decode cL_law 399 = .ok (.ireturn, 1) := by decide +kernel
theorem dL_law_400 : decode cL_law 400 = .ok (.goto 986, 3) := by decide +kernel
theorem dL_law_403 : decode cL_law 403 = .ok (.aload_n 1, 1) := by decide +kernel
theorem dL_law_404 : decode cL_law 404 = .ok (.aload_n 0, 1) := by decide +kernel
theorem dL_law_405 : decode cL_law 405 = .ok (.iload 4, 2) := by decide +kernel
theorem dL_law_407 : decode cL_law 407 = .ok (.iconst 1, 1) := by decide +kernel
theorem dL_law_408 : decode cL_law 408 = .ok (.iadd, 1) := by decide +kernel
theorem dL_law_409 : decode cL_law 409 = .ok (.iaload, 1) := by decide +kernel
theorem dL_law_410 : decode cL_law 410 = .ok (.aload_n 0, 1) := by decide +kernel
theorem dL_law_411 : decode cL_law 411 = .ok (.iload 4, 2) := by decide +kernel
theorem dL_law_413 : decode cL_law 413 = .ok (.iconst 2, 1) := by decide +kernel
theorem dL_law_414 : decode cL_law 414 = .ok (.iadd, 1) := by decide +kernel
theorem dL_law_415 : decode cL_law 415 = .ok (.iaload, 1) := by decide +kernel
theorem dL_law_416 : decode cL_law 416 = .ok (.aload_n 3, 1) := by decide +kernel
theorem dL_law_417 : decode cL_law 417 = .ok (.invokestatic 97, 3) := by decide +kernel
theorem dL_law_420 : decode cL_law 420 = .ok (.istore 5, 2) := by decide +kernel
theorem dL_law_422 : decode cL_law 422 = .ok (.aload_n 2, 1) := by decide +kernel
theorem dL_law_423 : decode cL_law 423 = .ok (.aload_n 0, 1) := by decide +kernel
theorem dL_law_424 : decode cL_law 424 = .ok (.iload 4, 2) := by decide +kernel
theorem dL_law_426 : decode cL_law 426 = .ok (.iconst 1, 1) := by decide +kernel
theorem dL_law_427 : decode cL_law 427 = .ok (.iadd, 1) := by decide +kernel
theorem dL_law_428 : decode cL_law 428 = .ok (.iaload, 1) := by decide +kernel
theorem dL_law_429 : decode cL_law 429 = .ok (.aload_n 0, 1) := by decide +kernel
theorem dL_law_430 : decode cL_law 430 = .ok (.iload 4, 2) := by decide +kernel
theorem dL_law_432 : decode cL_law 432 = .ok (.iconst 2, 1) := by decide +kernel
theorem dL_law_433 : decode cL_law 433 = .ok (.iadd, 1) := by decide +kernel
theorem dL_law_434 : decode cL_law 434 = .ok (.iaload, 1) := by decide +kernel
theorem dL_law_435 : decode cL_law 435 = .ok (.invokevirtual 100, 3) := by decide +kernel
theorem dL_law_438 : decode cL_law 438 = .ok (.istore 6, 2) := by decide +kernel
theorem dL_law_440 : decode cL_law 440 = .ok (.aload_n 2, 1) := by decide +kernel
theorem dL_law_441 : decode cL_law 441 = .ok (.invokevirtual 85, 3) := by decide +kernel
theorem dL_law_444 : decode cL_law 444 = .ok (.iload 5, 2) := by decide +kernel
theorem dL_law_446 : decode cL_law 446 = .ok (.if_icmp .eq 5, 3) := by decide +kernel
theorem dL_law_449 : decode cL_law 449 = .ok (.iconst 0, 1) := by decide +kernel
theorem dL_law_450 : decode cL_law 450 = .ok (.ireturn, 1) := by decide +kernel
theorem dL_law_451 : decode cL_law 451 = .ok (.iload 5, 2) := by decide +kernel
theorem dL_law_453 : decode cL_law 453 = .ok (.ifCond .ne 15, 3) := by decide +kernel
theorem dL_law_456 : decode cL_law 456 = .ok (.aload_n 3, 1) := by decide +kernel
theorem dL_law_457 : decode cL_law 457 = .ok (.iconst 0, 1) := by decide +kernel
theorem dL_law_458 : decode cL_law 458 = .ok (.laload, 1) := by decide +kernel
theorem dL_law_459 : decode cL_law 459 = .ok (.iload 6, 2) := by decide +kernel
theorem dL_law_461 : decode cL_law 461 = .ok (.i2l, 1) := by decide +kernel
theorem dL_law_462 : decode cL_law 462 = .ok (.lcmp, 1) := by decide +kernel
theorem dL_law_463 : decode cL_law 463 = .ok (.ifCond .eq 5, 3) := by decide +kernel
theorem dL_law_466 : decode cL_law 466 = .ok (.iconst 0, 1) := by decide +kernel
theorem dL_law_467 : decode cL_law 467 = .ok (.ireturn, 1) := by decide +kernel
theorem dL_law_468 : decode cL_law 468 = .ok (.goto 918, 3) := by decide +kernel
theorem dL_law_471 : decode cL_law 471 = .ok (.aload_n 1, 1) := by decide +kernel
theorem dL_law_472 : decode cL_law 472 = .ok (.aload_n 0, 1) := by decide +kernel
theorem dL_law_473 : decode cL_law 473 = .ok (.iload 4, 2) := by decide +kernel
theorem dL_law_475 : decode cL_law 475 = .ok (.iconst 1, 1) := by decide +kernel
theorem dL_law_476 : decode cL_law 476 = .ok (.iadd, 1) := by decide +kernel
theorem dL_law_477 : decode cL_law 477 = .ok (.iaload, 1) := by decide +kernel
theorem dL_law_478 : decode cL_law 478 = .ok (.aload_n 0, 1) := by decide +kernel
theorem dL_law_479 : decode cL_law 479 = .ok (.iload 4, 2) := by decide +kernel
theorem dL_law_481 : decode cL_law 481 = .ok (.iconst 2, 1) := by decide +kernel
theorem dL_law_482 : decode cL_law 482 = .ok (.iadd, 1) := by decide +kernel
theorem dL_law_483 : decode cL_law 483 = .ok (.iaload, 1) := by decide +kernel
theorem dL_law_484 : decode cL_law 484 = .ok (.aload_n 3, 1) := by decide +kernel
theorem dL_law_485 : decode cL_law 485 = .ok (.invokestatic 101, 3) := by decide +kernel
theorem dL_law_488 : decode cL_law 488 = .ok (.istore 5, 2) := by decide +kernel
theorem dL_law_490 : decode cL_law 490 = .ok (.aload_n 2, 1) := by decide +kernel
theorem dL_law_491 : decode cL_law 491 = .ok (.aload_n 0, 1) := by decide +kernel
theorem dL_law_492 : decode cL_law 492 = .ok (.iload 4, 2) := by decide +kernel
theorem dL_law_494 : decode cL_law 494 = .ok (.iconst 1, 1) := by decide +kernel
theorem dL_law_495 : decode cL_law 495 = .ok (.iadd, 1) := by decide +kernel
theorem dL_law_496 : decode cL_law 496 = .ok (.iaload, 1) := by decide +kernel
theorem dL_law_497 : decode cL_law 497 = .ok (.aload_n 0, 1) := by decide +kernel
theorem dL_law_498 : decode cL_law 498 = .ok (.iload 4, 2) := by decide +kernel
theorem dL_law_500 : decode cL_law 500 = .ok (.iconst 2, 1) := by decide +kernel
theorem dL_law_501 : decode cL_law 501 = .ok (.iadd, 1) := by decide +kernel
theorem dL_law_502 : decode cL_law 502 = .ok (.iaload, 1) := by decide +kernel
theorem dL_law_503 : decode cL_law 503 = .ok (.invokevirtual 103, 3) := by decide +kernel
theorem dL_law_506 : decode cL_law 506 = .ok (.istore 6, 2) := by decide +kernel
theorem dL_law_508 : decode cL_law 508 = .ok (.aload_n 2, 1) := by decide +kernel
theorem dL_law_509 : decode cL_law 509 = .ok (.invokevirtual 85, 3) := by decide +kernel
theorem dL_law_512 : decode cL_law 512 = .ok (.iload 5, 2) := by decide +kernel
theorem dL_law_514 : decode cL_law 514 = .ok (.if_icmp .eq 5, 3) := by decide +kernel
theorem dL_law_517 : decode cL_law 517 = .ok (.iconst 0, 1) := by decide +kernel
theorem dL_law_518 : decode cL_law 518 = .ok (.ireturn, 1) := by decide +kernel
theorem dL_law_519 : decode cL_law 519 = .ok (.iload 5, 2) := by decide +kernel
theorem dL_law_521 : decode cL_law 521 = .ok (.ifCond .ne 15, 3) := by decide +kernel
theorem dL_law_524 : decode cL_law 524 = .ok (.aload_n 3, 1) := by decide +kernel
theorem dL_law_525 : decode cL_law 525 = .ok (.iconst 0, 1) := by decide +kernel
theorem dL_law_526 : decode cL_law 526 = .ok (.laload, 1) := by decide +kernel
theorem dL_law_527 : decode cL_law 527 = .ok (.iload 6, 2) := by decide +kernel
theorem dL_law_529 : decode cL_law 529 = .ok (.i2l, 1) := by decide +kernel
theorem dL_law_530 : decode cL_law 530 = .ok (.lcmp, 1) := by decide +kernel
theorem dL_law_531 : decode cL_law 531 = .ok (.ifCond .eq 5, 3) := by decide +kernel
theorem dL_law_534 : decode cL_law 534 = .ok (.iconst 0, 1) := by decide +kernel
theorem dL_law_535 : decode cL_law 535 = .ok (.ireturn, 1) := by decide +kernel
theorem dL_law_536 : decode cL_law 536 = .ok (.goto 850, 3) := by decide +kernel
theorem dL_law_539 : decode cL_law 539 = .ok (.aload_n 1, 1) := by decide +kernel
theorem dL_law_540 : decode cL_law 540 = .ok (.aload_n 0, 1) := by decide +kernel
theorem dL_law_541 : decode cL_law 541 = .ok (.iload 4, 2) := by decide +kernel
theorem dL_law_543 : decode cL_law 543 = .ok (.iconst 1, 1) := by decide +kernel
theorem dL_law_544 : decode cL_law 544 = .ok (.iadd, 1) := by decide +kernel
theorem dL_law_545 : decode cL_law 545 = .ok (.iaload, 1) := by decide +kernel
theorem dL_law_546 : decode cL_law 546 = .ok (.aload_n 0, 1) := by decide +kernel
theorem dL_law_547 : decode cL_law 547 = .ok (.iload 4, 2) := by decide +kernel
theorem dL_law_549 : decode cL_law 549 = .ok (.iconst 2, 1) := by decide +kernel
theorem dL_law_550 : decode cL_law 550 = .ok (.iadd, 1) := by decide +kernel
theorem dL_law_551 : decode cL_law 551 = .ok (.iaload, 1) := by decide +kernel
theorem dL_law_552 : decode cL_law 552 = .ok (.aload_n 3, 1) := by decide +kernel
theorem dL_law_553 : decode cL_law 553 = .ok (.invokestatic 104, 3) := by decide +kernel
theorem dL_law_556 : decode cL_law 556 = .ok (.istore 5, 2) := by decide +kernel
theorem dL_law_558 : decode cL_law 558 = .ok (.aload_n 2, 1) := by decide +kernel
theorem dL_law_559 : decode cL_law 559 = .ok (.aload_n 0, 1) := by decide +kernel
theorem dL_law_560 : decode cL_law 560 = .ok (.iload 4, 2) := by decide +kernel
theorem dL_law_562 : decode cL_law 562 = .ok (.iconst 1, 1) := by decide +kernel
theorem dL_law_563 : decode cL_law 563 = .ok (.iadd, 1) := by decide +kernel
theorem dL_law_564 : decode cL_law 564 = .ok (.iaload, 1) := by decide +kernel
theorem dL_law_565 : decode cL_law 565 = .ok (.aload_n 0, 1) := by decide +kernel
theorem dL_law_566 : decode cL_law 566 = .ok (.iload 4, 2) := by decide +kernel
theorem dL_law_568 : decode cL_law 568 = .ok (.iconst 2, 1) := by decide +kernel
theorem dL_law_569 : decode cL_law 569 = .ok (.iadd, 1) := by decide +kernel
theorem dL_law_570 : decode cL_law 570 = .ok (.iaload, 1) := by decide +kernel
theorem dL_law_571 : decode cL_law 571 = .ok (.invokevirtual 106, 3) := by decide +kernel
theorem dL_law_574 : decode cL_law 574 = .ok (.istore 6, 2) := by decide +kernel
theorem dL_law_576 : decode cL_law 576 = .ok (.aload_n 2, 1) := by decide +kernel
theorem dL_law_577 : decode cL_law 577 = .ok (.invokevirtual 85, 3) := by decide +kernel
theorem dL_law_580 : decode cL_law 580 = .ok (.iload 5, 2) := by decide +kernel
theorem dL_law_582 : decode cL_law 582 = .ok (.if_icmp .eq 5, 3) := by decide +kernel
theorem dL_law_585 : decode cL_law 585 = .ok (.iconst 0, 1) := by decide +kernel
theorem dL_law_586 : decode cL_law 586 = .ok (.ireturn, 1) := by decide +kernel
theorem dL_law_587 : decode cL_law 587 = .ok (.iload 5, 2) := by decide +kernel
theorem dL_law_589 : decode cL_law 589 = .ok (.ifCond .ne 15, 3) := by decide +kernel
theorem dL_law_592 : decode cL_law 592 = .ok (.aload_n 3, 1) := by decide +kernel
theorem dL_law_593 : decode cL_law 593 = .ok (.iconst 0, 1) := by decide +kernel
theorem dL_law_594 : decode cL_law 594 = .ok (.laload, 1) := by decide +kernel
theorem dL_law_595 : decode cL_law 595 = .ok (.iload 6, 2) := by decide +kernel
theorem dL_law_597 : decode cL_law 597 = .ok (.i2l, 1) := by decide +kernel
theorem dL_law_598 : decode cL_law 598 = .ok (.lcmp, 1) := by decide +kernel
theorem dL_law_599 : decode cL_law 599 = .ok (.ifCond .eq 5, 3) := by decide +kernel
theorem dL_law_602 : decode cL_law 602 = .ok (.iconst 0, 1) := by decide +kernel
theorem dL_law_603 : decode cL_law 603 = .ok (.ireturn, 1) := by decide +kernel
theorem dL_law_604 : decode cL_law 604 = .ok (.goto 782, 3) := by decide +kernel
theorem dL_law_607 : decode cL_law 607 = .ok (.aload_n 1, 1) := by decide +kernel
theorem dL_law_608 : decode cL_law 608 = .ok (.aload_n 0, 1) := by decide +kernel
theorem dL_law_609 : decode cL_law 609 = .ok (.iload 4, 2) := by decide +kernel
theorem dL_law_611 : decode cL_law 611 = .ok (.iconst 1, 1) := by decide +kernel
theorem dL_law_612 : decode cL_law 612 = .ok (.iadd, 1) := by decide +kernel
theorem dL_law_613 : decode cL_law 613 = .ok (.iaload, 1) := by decide +kernel
theorem dL_law_614 : decode cL_law 614 = .ok (.aload_n 0, 1) := by decide +kernel
theorem dL_law_615 : decode cL_law 615 = .ok (.iload 4, 2) := by decide +kernel
theorem dL_law_617 : decode cL_law 617 = .ok (.iconst 2, 1) := by decide +kernel
theorem dL_law_618 : decode cL_law 618 = .ok (.iadd, 1) := by decide +kernel
theorem dL_law_619 : decode cL_law 619 = .ok (.iaload, 1) := by decide +kernel
theorem dL_law_620 : decode cL_law 620 = .ok (.ifCond .eq 7, 3) := by decide +kernel
theorem dL_law_623 : decode cL_law 623 = .ok (.iconst 1, 1) := by decide +kernel
theorem dL_law_624 : decode cL_law 624 = .ok (.goto 4, 3) := by decide +kernel
theorem dL_law_627 : decode cL_law 627 = .ok (.iconst 0, 1) := by decide +kernel
theorem dL_law_628 : decode cL_law 628 = .ok (.aload_n 3, 1) := by decide +kernel
theorem dL_law_629 : decode cL_law 629 = .ok (.invokestatic 107, 3) := by decide +kernel
theorem dL_law_632 : decode cL_law 632 = .ok (.istore 5, 2) := by decide +kernel
theorem dL_law_634 : decode cL_law 634 = .ok (.aload_n 2, 1) := by decide +kernel
theorem dL_law_635 : decode cL_law 635 = .ok (.aload_n 0, 1) := by decide +kernel
theorem dL_law_636 : decode cL_law 636 = .ok (.iload 4, 2) := by decide +kernel
theorem dL_law_638 : decode cL_law 638 = .ok (.iconst 1, 1) := by decide +kernel
theorem dL_law_639 : decode cL_law 639 = .ok (.iadd, 1) := by decide +kernel
theorem dL_law_640 : decode cL_law 640 = .ok (.iaload, 1) := by decide +kernel
theorem dL_law_641 : decode cL_law 641 = .ok (.aload_n 0, 1) := by decide +kernel
theorem dL_law_642 : decode cL_law 642 = .ok (.iload 4, 2) := by decide +kernel
theorem dL_law_644 : decode cL_law 644 = .ok (.iconst 2, 1) := by decide +kernel
theorem dL_law_645 : decode cL_law 645 = .ok (.iadd, 1) := by decide +kernel
theorem dL_law_646 : decode cL_law 646 = .ok (.iaload, 1) := by decide +kernel
theorem dL_law_647 : decode cL_law 647 = .ok (.ifCond .eq 7, 3) := by decide +kernel
theorem dL_law_650 : decode cL_law 650 = .ok (.iconst 1, 1) := by decide +kernel
theorem dL_law_651 : decode cL_law 651 = .ok (.goto 4, 3) := by decide +kernel
theorem dL_law_654 : decode cL_law 654 = .ok (.iconst 0, 1) := by decide +kernel
theorem dL_law_655 : decode cL_law 655 = .ok (.invokevirtual 109, 3) := by decide +kernel
theorem dL_law_658 : decode cL_law 658 = .ok (.istore 6, 2) := by decide +kernel
theorem dL_law_660 : decode cL_law 660 = .ok (.aload_n 2, 1) := by decide +kernel
theorem dL_law_661 : decode cL_law 661 = .ok (.invokevirtual 85, 3) := by decide +kernel
theorem dL_law_664 : decode cL_law 664 = .ok (.iload 5, 2) := by decide +kernel
theorem dL_law_666 : decode cL_law 666 = .ok (.if_icmp .eq 5, 3) := by decide +kernel
theorem dL_law_669 : decode cL_law 669 = .ok (.iconst 0, 1) := by decide +kernel
theorem dL_law_670 : decode cL_law 670 = .ok (.ireturn, 1) := by decide +kernel
theorem dL_law_671 : decode cL_law 671 = .ok (.iload 5, 2) := by decide +kernel
theorem dL_law_673 : decode cL_law 673 = .ok (.ifCond .ne 15, 3) := by decide +kernel
theorem dL_law_676 : decode cL_law 676 = .ok (.aload_n 3, 1) := by decide +kernel
theorem dL_law_677 : decode cL_law 677 = .ok (.iconst 0, 1) := by decide +kernel
theorem dL_law_678 : decode cL_law 678 = .ok (.laload, 1) := by decide +kernel
theorem dL_law_679 : decode cL_law 679 = .ok (.iload 6, 2) := by decide +kernel
theorem dL_law_681 : decode cL_law 681 = .ok (.i2l, 1) := by decide +kernel
theorem dL_law_682 : decode cL_law 682 = .ok (.lcmp, 1) := by decide +kernel
theorem dL_law_683 : decode cL_law 683 = .ok (.ifCond .eq 5, 3) := by decide +kernel
theorem dL_law_686 : decode cL_law 686 = .ok (.iconst 0, 1) := by decide +kernel
theorem dL_law_687 : decode cL_law 687 = .ok (.ireturn, 1) := by decide +kernel
theorem dL_law_688 : decode cL_law 688 = .ok (.goto 698, 3) := by decide +kernel
theorem dL_law_691 : decode cL_law 691 = .ok (.aload_n 1, 1) := by decide +kernel
theorem dL_law_692 : decode cL_law 692 = .ok (.aload_n 0, 1) := by decide +kernel
theorem dL_law_693 : decode cL_law 693 = .ok (.iload 4, 2) := by decide +kernel
theorem dL_law_695 : decode cL_law 695 = .ok (.iconst 1, 1) := by decide +kernel
theorem dL_law_696 : decode cL_law 696 = .ok (.iadd, 1) := by decide +kernel
theorem dL_law_697 : decode cL_law 697 = .ok (.iaload, 1) := by decide +kernel
theorem dL_law_698 : decode cL_law 698 = .ok (.ifCond .eq 7, 3) := by decide +kernel
theorem dL_law_701 : decode cL_law 701 = .ok (.iconst 1, 1) := by decide +kernel
theorem dL_law_702 : decode cL_law 702 = .ok (.goto 4, 3) := by decide +kernel
theorem dL_law_705 : decode cL_law 705 = .ok (.iconst 0, 1) := by decide +kernel
theorem dL_law_706 : decode cL_law 706 = .ok (.aload_n 0, 1) := by decide +kernel
theorem dL_law_707 : decode cL_law 707 = .ok (.iload 4, 2) := by decide +kernel
theorem dL_law_709 : decode cL_law 709 = .ok (.iconst 2, 1) := by decide +kernel
theorem dL_law_710 : decode cL_law 710 = .ok (.iadd, 1) := by decide +kernel
theorem dL_law_711 : decode cL_law 711 = .ok (.iaload, 1) := by decide +kernel
theorem dL_law_712 : decode cL_law 712 = .ok (.aload_n 0, 1) := by decide +kernel
theorem dL_law_713 : decode cL_law 713 = .ok (.iload 4, 2) := by decide +kernel
theorem dL_law_715 : decode cL_law 715 = .ok (.iconst 3, 1) := by decide +kernel
theorem dL_law_716 : decode cL_law 716 = .ok (.iadd, 1) := by decide +kernel
theorem dL_law_717 : decode cL_law 717 = .ok (.iaload, 1) := by decide +kernel
theorem dL_law_718 : decode cL_law 718 = .ok (.aload_n 0, 1) := by decide +kernel
theorem dL_law_719 : decode cL_law 719 = .ok (.iload 4, 2) := by decide +kernel
theorem dL_law_721 : decode cL_law 721 = .ok (.iconst 4, 1) := by decide +kernel
theorem dL_law_722 : decode cL_law 722 = .ok (.iadd, 1) := by decide +kernel
theorem dL_law_723 : decode cL_law 723 = .ok (.iaload, 1) := by decide +kernel
theorem dL_law_724 : decode cL_law 724 = .ok (.aload_n 3, 1) := by decide +kernel
theorem dL_law_725 : decode cL_law 725 = .ok (.invokestatic 110, 3) := by decide +kernel
theorem dL_law_728 : decode cL_law 728 = .ok (.istore 5, 2) := by decide +kernel
theorem dL_law_730 : decode cL_law 730 = .ok (.aload_n 2, 1) := by decide +kernel
theorem dL_law_731 : decode cL_law 731 = .ok (.aload_n 0, 1) := by decide +kernel
theorem dL_law_732 : decode cL_law 732 = .ok (.iload 4, 2) := by decide +kernel
theorem dL_law_734 : decode cL_law 734 = .ok (.iconst 1, 1) := by decide +kernel
theorem dL_law_735 : decode cL_law 735 = .ok (.iadd, 1) := by decide +kernel
theorem dL_law_736 : decode cL_law 736 = .ok (.iaload, 1) := by decide +kernel
theorem dL_law_737 : decode cL_law 737 = .ok (.ifCond .eq 7, 3) := by decide +kernel
theorem dL_law_740 : decode cL_law 740 = .ok (.iconst 1, 1) := by decide +kernel
theorem dL_law_741 : decode cL_law 741 = .ok (.goto 4, 3) := by decide +kernel
theorem dL_law_744 : decode cL_law 744 = .ok (.iconst 0, 1) := by decide +kernel
theorem dL_law_745 : decode cL_law 745 = .ok (.aload_n 0, 1) := by decide +kernel
theorem dL_law_746 : decode cL_law 746 = .ok (.iload 4, 2) := by decide +kernel
theorem dL_law_748 : decode cL_law 748 = .ok (.iconst 2, 1) := by decide +kernel
theorem dL_law_749 : decode cL_law 749 = .ok (.iadd, 1) := by decide +kernel
theorem dL_law_750 : decode cL_law 750 = .ok (.iaload, 1) := by decide +kernel
theorem dL_law_751 : decode cL_law 751 = .ok (.aload_n 0, 1) := by decide +kernel
theorem dL_law_752 : decode cL_law 752 = .ok (.iload 4, 2) := by decide +kernel
theorem dL_law_754 : decode cL_law 754 = .ok (.iconst 3, 1) := by decide +kernel
theorem dL_law_755 : decode cL_law 755 = .ok (.iadd, 1) := by decide +kernel
theorem dL_law_756 : decode cL_law 756 = .ok (.iaload, 1) := by decide +kernel
theorem dL_law_757 : decode cL_law 757 = .ok (.aload_n 0, 1) := by decide +kernel
theorem dL_law_758 : decode cL_law 758 = .ok (.iload 4, 2) := by decide +kernel
theorem dL_law_760 : decode cL_law 760 = .ok (.iconst 4, 1) := by decide +kernel
theorem dL_law_761 : decode cL_law 761 = .ok (.iadd, 1) := by decide +kernel
theorem dL_law_762 : decode cL_law 762 = .ok (.iaload, 1) := by decide +kernel
theorem dL_law_763 : decode cL_law 763 = .ok (.invokevirtual 113, 3) := by decide +kernel
theorem dL_law_766 : decode cL_law 766 = .ok (.istore 6, 2) := by decide +kernel
theorem dL_law_768 : decode cL_law 768 = .ok (.aload_n 2, 1) := by decide +kernel
theorem dL_law_769 : decode cL_law 769 = .ok (.invokevirtual 85, 3) := by decide +kernel
theorem dL_law_772 : decode cL_law 772 = .ok (.iload 5, 2) := by decide +kernel
theorem dL_law_774 : decode cL_law 774 = .ok (.if_icmp .eq 5, 3) := by decide +kernel
theorem dL_law_777 : decode cL_law 777 = .ok (.iconst 0, 1) := by decide +kernel
theorem dL_law_778 : decode cL_law 778 = .ok (.ireturn, 1) := by decide +kernel
theorem dL_law_779 : decode cL_law 779 = .ok (.iload 5, 2) := by decide +kernel
theorem dL_law_781 : decode cL_law 781 = .ok (.ifCond .ne 15, 3) := by decide +kernel
theorem dL_law_784 : decode cL_law 784 = .ok (.aload_n 3, 1) := by decide +kernel
theorem dL_law_785 : decode cL_law 785 = .ok (.iconst 0, 1) := by decide +kernel
theorem dL_law_786 : decode cL_law 786 = .ok (.laload, 1) := by decide +kernel
theorem dL_law_787 : decode cL_law 787 = .ok (.iload 6, 2) := by decide +kernel
theorem dL_law_789 : decode cL_law 789 = .ok (.i2l, 1) := by decide +kernel
theorem dL_law_790 : decode cL_law 790 = .ok (.lcmp, 1) := by decide +kernel
theorem dL_law_791 : decode cL_law 791 = .ok (.ifCond .eq 5, 3) := by decide +kernel
theorem dL_law_794 : decode cL_law 794 = .ok (.iconst 0, 1) := by decide +kernel
theorem dL_law_795 : decode cL_law 795 = .ok (.ireturn, 1) := by decide +kernel
theorem dL_law_796 : decode cL_law 796 = .ok (.goto 590, 3) := by decide +kernel
theorem dL_law_799 : decode cL_law 799 = .ok (.aload_n 1, 1) := by decide +kernel
theorem dL_law_800 : decode cL_law 800 = .ok (.aload_n 0, 1) := by decide +kernel
theorem dL_law_801 : decode cL_law 801 = .ok (.iload 4, 2) := by decide +kernel
theorem dL_law_803 : decode cL_law 803 = .ok (.iconst 1, 1) := by decide +kernel
theorem dL_law_804 : decode cL_law 804 = .ok (.iadd, 1) := by decide +kernel
theorem dL_law_805 : decode cL_law 805 = .ok (.iaload, 1) := by decide +kernel
theorem dL_law_806 : decode cL_law 806 = .ok (.aload_n 3, 1) := by decide +kernel
theorem dL_law_807 : decode cL_law 807 = .ok (.invokestatic 114, 3) := by decide +kernel
theorem dL_law_810 : decode cL_law 810 = .ok (.istore 5, 2) := by decide +kernel
theorem dL_law_812 : decode cL_law 812 = .ok (.aload_n 2, 1) := by decide +kernel
theorem dL_law_813 : decode cL_law 813 = .ok (.aload_n 0, 1) := by decide +kernel
theorem dL_law_814 : decode cL_law 814 = .ok (.iload 4, 2) := by decide +kernel
theorem dL_law_816 : decode cL_law 816 = .ok (.iconst 1, 1) := by decide +kernel
theorem dL_law_817 : decode cL_law 817 = .ok (.iadd, 1) := by decide +kernel
theorem dL_law_818 : decode cL_law 818 = .ok (.iaload, 1) := by decide +kernel
theorem dL_law_819 : decode cL_law 819 = .ok (.invokevirtual 117, 3) := by decide +kernel
theorem dL_law_822 : decode cL_law 822 = .ok (.istore 6, 2) := by decide +kernel
theorem dL_law_824 : decode cL_law 824 = .ok (.aload_n 2, 1) := by decide +kernel
theorem dL_law_825 : decode cL_law 825 = .ok (.invokevirtual 85, 3) := by decide +kernel
theorem dL_law_828 : decode cL_law 828 = .ok (.iload 5, 2) := by decide +kernel
theorem dL_law_830 : decode cL_law 830 = .ok (.if_icmp .eq 5, 3) := by decide +kernel
theorem dL_law_833 : decode cL_law 833 = .ok (.iconst 0, 1) := by decide +kernel
theorem dL_law_834 : decode cL_law 834 = .ok (.ireturn, 1) := by decide +kernel
theorem dL_law_835 : decode cL_law 835 = .ok (.iload 5, 2) := by decide +kernel
theorem dL_law_837 : decode cL_law 837 = .ok (.ifCond .ne 15, 3) := by decide +kernel
theorem dL_law_840 : decode cL_law 840 = .ok (.aload_n 3, 1) := by decide +kernel
theorem dL_law_841 : decode cL_law 841 = .ok (.iconst 0, 1) := by decide +kernel
theorem dL_law_842 : decode cL_law 842 = .ok (.laload, 1) := by decide +kernel
theorem dL_law_843 : decode cL_law 843 = .ok (.iload 6, 2) := by decide +kernel
theorem dL_law_845 : decode cL_law 845 = .ok (.i2l, 1) := by decide +kernel
theorem dL_law_846 : decode cL_law 846 = .ok (.lcmp, 1) := by decide +kernel
theorem dL_law_847 : decode cL_law 847 = .ok (.ifCond .eq 5, 3) := by decide +kernel
theorem dL_law_850 : decode cL_law 850 = .ok (.iconst 0, 1) := by decide +kernel
theorem dL_law_851 : decode cL_law 851 = .ok (.ireturn, 1) := by decide +kernel
theorem dL_law_852 : decode cL_law 852 = .ok (.goto 534, 3) := by decide +kernel
theorem dL_law_855 : decode cL_law 855 = .ok (.aload_n 1, 1) := by decide +kernel
theorem dL_law_856 : decode cL_law 856 = .ok (.aload_n 0, 1) := by decide +kernel
theorem dL_law_857 : decode cL_law 857 = .ok (.iload 4, 2) := by decide +kernel
theorem dL_law_859 : decode cL_law 859 = .ok (.iconst 1, 1) := by decide +kernel
theorem dL_law_860 : decode cL_law 860 = .ok (.iadd, 1) := by decide +kernel
theorem dL_law_861 : decode cL_law 861 = .ok (.iaload, 1) := by decide +kernel
theorem dL_law_862 : decode cL_law 862 = .ok (.aload_n 0, 1) := by decide +kernel
theorem dL_law_863 : decode cL_law 863 = .ok (.iload 4, 2) := by decide +kernel
theorem dL_law_865 : decode cL_law 865 = .ok (.iconst 2, 1) := by decide +kernel
theorem dL_law_866 : decode cL_law 866 = .ok (.iadd, 1) := by decide +kernel
theorem dL_law_867 : decode cL_law 867 = .ok (.iaload, 1) := by decide +kernel
theorem dL_law_868 : decode cL_law 868 = .ok (.aload_n 3, 1) := by decide +kernel
theorem dL_law_869 : decode cL_law 869 = .ok (.invokestatic 118, 3) := by decide +kernel
theorem dL_law_872 : decode cL_law 872 = .ok (.istore 5, 2) := by decide +kernel
theorem dL_law_874 : decode cL_law 874 = .ok (.aload_n 2, 1) := by decide +kernel
theorem dL_law_875 : decode cL_law 875 = .ok (.aload_n 0, 1) := by decide +kernel
theorem dL_law_876 : decode cL_law 876 = .ok (.iload 4, 2) := by decide +kernel
theorem dL_law_878 : decode cL_law 878 = .ok (.iconst 1, 1) := by decide +kernel
theorem dL_law_879 : decode cL_law 879 = .ok (.iadd, 1) := by decide +kernel
theorem dL_law_880 : decode cL_law 880 = .ok (.iaload, 1) := by decide +kernel
theorem dL_law_881 : decode cL_law 881 = .ok (.aload_n 0, 1) := by decide +kernel
theorem dL_law_882 : decode cL_law 882 = .ok (.iload 4, 2) := by decide +kernel
theorem dL_law_884 : decode cL_law 884 = .ok (.iconst 2, 1) := by decide +kernel
theorem dL_law_885 : decode cL_law 885 = .ok (.iadd, 1) := by decide +kernel
theorem dL_law_886 : decode cL_law 886 = .ok (.iaload, 1) := by decide +kernel
theorem dL_law_887 : decode cL_law 887 = .ok (.invokevirtual 120, 3) := by decide +kernel
theorem dL_law_890 : decode cL_law 890 = .ok (.istore 6, 2) := by decide +kernel
theorem dL_law_892 : decode cL_law 892 = .ok (.aload_n 2, 1) := by decide +kernel
theorem dL_law_893 : decode cL_law 893 = .ok (.invokevirtual 85, 3) := by decide +kernel
theorem dL_law_896 : decode cL_law 896 = .ok (.iload 5, 2) := by decide +kernel
theorem dL_law_898 : decode cL_law 898 = .ok (.if_icmp .eq 5, 3) := by decide +kernel
theorem dL_law_901 : decode cL_law 901 = .ok (.iconst 0, 1) := by decide +kernel
theorem dL_law_902 : decode cL_law 902 = .ok (.ireturn, 1) := by decide +kernel
theorem dL_law_903 : decode cL_law 903 = .ok (.iload 5, 2) := by decide +kernel
theorem dL_law_905 : decode cL_law 905 = .ok (.ifCond .ne 15, 3) := by decide +kernel
theorem dL_law_908 : decode cL_law 908 = .ok (.aload_n 3, 1) := by decide +kernel
theorem dL_law_909 : decode cL_law 909 = .ok (.iconst 0, 1) := by decide +kernel
theorem dL_law_910 : decode cL_law 910 = .ok (.laload, 1) := by decide +kernel
theorem dL_law_911 : decode cL_law 911 = .ok (.iload 6, 2) := by decide +kernel
theorem dL_law_913 : decode cL_law 913 = .ok (.i2l, 1) := by decide +kernel
theorem dL_law_914 : decode cL_law 914 = .ok (.lcmp, 1) := by decide +kernel
theorem dL_law_915 : decode cL_law 915 = .ok (.ifCond .eq 5, 3) := by decide +kernel
theorem dL_law_918 : decode cL_law 918 = .ok (.iconst 0, 1) := by decide +kernel
theorem dL_law_919 : decode cL_law 919 = .ok (.ireturn, 1) := by decide +kernel
theorem dL_law_920 : decode cL_law 920 = .ok (.goto 466, 3) := by decide +kernel
theorem dL_law_923 : decode cL_law 923 = .ok (.aload_n 1, 1) := by decide +kernel
theorem dL_law_924 : decode cL_law 924 = .ok (.aload_n 0, 1) := by decide +kernel
theorem dL_law_925 : decode cL_law 925 = .ok (.iload 4, 2) := by decide +kernel
theorem dL_law_927 : decode cL_law 927 = .ok (.iconst 1, 1) := by decide +kernel
theorem dL_law_928 : decode cL_law 928 = .ok (.iadd, 1) := by decide +kernel
theorem dL_law_929 : decode cL_law 929 = .ok (.iaload, 1) := by decide +kernel
theorem dL_law_930 : decode cL_law 930 = .ok (.aload_n 0, 1) := by decide +kernel
theorem dL_law_931 : decode cL_law 931 = .ok (.iload 4, 2) := by decide +kernel
theorem dL_law_933 : decode cL_law 933 = .ok (.iconst 2, 1) := by decide +kernel
theorem dL_law_934 : decode cL_law 934 = .ok (.iadd, 1) := by decide +kernel
theorem dL_law_935 : decode cL_law 935 = .ok (.iaload, 1) := by decide +kernel
theorem dL_law_936 : decode cL_law 936 = .ok (.aload_n 3, 1) := by decide +kernel
theorem dL_law_937 : decode cL_law 937 = .ok (.invokestatic 121, 3) := by decide +kernel
theorem dL_law_940 : decode cL_law 940 = .ok (.istore 5, 2) := by decide +kernel
theorem dL_law_942 : decode cL_law 942 = .ok (.aload_n 2, 1) := by decide +kernel
theorem dL_law_943 : decode cL_law 943 = .ok (.aload_n 0, 1) := by decide +kernel
theorem dL_law_944 : decode cL_law 944 = .ok (.iload 4, 2) := by decide +kernel
theorem dL_law_946 : decode cL_law 946 = .ok (.iconst 1, 1) := by decide +kernel
theorem dL_law_947 : decode cL_law 947 = .ok (.iadd, 1) := by decide +kernel
theorem dL_law_948 : decode cL_law 948 = .ok (.iaload, 1) := by decide +kernel
theorem dL_law_949 : decode cL_law 949 = .ok (.aload_n 0, 1) := by decide +kernel
theorem dL_law_950 : decode cL_law 950 = .ok (.iload 4, 2) := by decide +kernel
theorem dL_law_952 : decode cL_law 952 = .ok (.iconst 2, 1) := by decide +kernel
theorem dL_law_953 : decode cL_law 953 = .ok (.iadd, 1) := by decide +kernel
theorem dL_law_954 : decode cL_law 954 = .ok (.iaload, 1) := by decide +kernel
theorem dL_law_955 : decode cL_law 955 = .ok (.invokevirtual 123, 3) := by decide +kernel
theorem dL_law_958 : decode cL_law 958 = .ok (.istore 6, 2) := by decide +kernel
theorem dL_law_960 : decode cL_law 960 = .ok (.aload_n 2, 1) := by decide +kernel
theorem dL_law_961 : decode cL_law 961 = .ok (.invokevirtual 85, 3) := by decide +kernel
theorem dL_law_964 : decode cL_law 964 = .ok (.iload 5, 2) := by decide +kernel
theorem dL_law_966 : decode cL_law 966 = .ok (.if_icmp .eq 5, 3) := by decide +kernel
theorem dL_law_969 : decode cL_law 969 = .ok (.iconst 0, 1) := by decide +kernel
theorem dL_law_970 : decode cL_law 970 = .ok (.ireturn, 1) := by decide +kernel
theorem dL_law_971 : decode cL_law 971 = .ok (.iload 5, 2) := by decide +kernel
theorem dL_law_973 : decode cL_law 973 = .ok (.ifCond .ne 15, 3) := by decide +kernel
theorem dL_law_976 : decode cL_law 976 = .ok (.aload_n 3, 1) := by decide +kernel
theorem dL_law_977 : decode cL_law 977 = .ok (.iconst 0, 1) := by decide +kernel
theorem dL_law_978 : decode cL_law 978 = .ok (.laload, 1) := by decide +kernel
theorem dL_law_979 : decode cL_law 979 = .ok (.iload 6, 2) := by decide +kernel
theorem dL_law_981 : decode cL_law 981 = .ok (.i2l, 1) := by decide +kernel
theorem dL_law_982 : decode cL_law 982 = .ok (.lcmp, 1) := by decide +kernel
theorem dL_law_983 : decode cL_law 983 = .ok (.ifCond .eq 5, 3) := by decide +kernel
theorem dL_law_986 : decode cL_law 986 = .ok (.iconst 0, 1) := by decide +kernel
theorem dL_law_987 : decode cL_law 987 = .ok (.ireturn, 1) := by decide +kernel
theorem dL_law_988 : decode cL_law 988 = .ok (.goto 398, 3) := by decide +kernel
theorem dL_law_991 : decode cL_law 991 = .ok (.aload_n 1, 1) := by decide +kernel
theorem dL_law_992 : decode cL_law 992 = .ok (.aload_n 0, 1) := by decide +kernel
theorem dL_law_993 : decode cL_law 993 = .ok (.iload 4, 2) := by decide +kernel
theorem dL_law_995 : decode cL_law 995 = .ok (.iconst 1, 1) := by decide +kernel
theorem dL_law_996 : decode cL_law 996 = .ok (.iadd, 1) := by decide +kernel
theorem dL_law_997 : decode cL_law 997 = .ok (.iaload, 1) := by decide +kernel
theorem dL_law_998 : decode cL_law 998 = .ok (.aload_n 0, 1) := by decide +kernel
theorem dL_law_999 : decode cL_law 999 = .ok (.iload 4, 2) := by decide +kernel
theorem dL_law_1001 : decode cL_law 1001 = .ok (.iconst 2, 1) := by decide +kernel
theorem dL_law_1002 : decode cL_law 1002 = .ok (.iadd, 1) := by decide +kernel
theorem dL_law_1003 : decode cL_law 1003 = .ok (.iaload, 1) := by decide +kernel
theorem dL_law_1004 : decode cL_law 1004 = .ok (.aload_n 3, 1) := by decide +kernel
theorem dL_law_1005 : decode cL_law 1005 = .ok (.invokestatic 124, 3) := by decide +kernel
theorem dL_law_1008 : decode cL_law 1008 = .ok (.istore 5, 2) := by decide +kernel
theorem dL_law_1010 : decode cL_law 1010 = .ok (.aload_n 2, 1) := by decide +kernel
theorem dL_law_1011 : decode cL_law 1011 = .ok (.aload_n 0, 1) := by decide +kernel
theorem dL_law_1012 : decode cL_law 1012 = .ok (.iload 4, 2) := by decide +kernel
theorem dL_law_1014 : decode cL_law 1014 = .ok (.iconst 1, 1) := by decide +kernel
theorem dL_law_1015 : decode cL_law 1015 = .ok (.iadd, 1) := by decide +kernel
theorem dL_law_1016 : decode cL_law 1016 = .ok (.iaload, 1) := by decide +kernel
theorem dL_law_1017 : decode cL_law 1017 = .ok (.aload_n 0, 1) := by decide +kernel
theorem dL_law_1018 : decode cL_law 1018 = .ok (.iload 4, 2) := by decide +kernel
theorem dL_law_1020 : decode cL_law 1020 = .ok (.iconst 2, 1) := by decide +kernel
theorem dL_law_1021 : decode cL_law 1021 = .ok (.iadd, 1) := by decide +kernel
theorem dL_law_1022 : decode cL_law 1022 = .ok (.iaload, 1) := by decide +kernel
theorem dL_law_1023 : decode cL_law 1023 = .ok (.invokevirtual 126, 3) := by decide +kernel
theorem dL_law_1026 : decode cL_law 1026 = .ok (.istore 6, 2) := by decide +kernel
theorem dL_law_1028 : decode cL_law 1028 = .ok (.aload_n 2, 1) := by decide +kernel
theorem dL_law_1029 : decode cL_law 1029 = .ok (.invokevirtual 85, 3) := by decide +kernel
theorem dL_law_1032 : decode cL_law 1032 = .ok (.iload 5, 2) := by decide +kernel
theorem dL_law_1034 : decode cL_law 1034 = .ok (.if_icmp .eq 5, 3) := by decide +kernel
theorem dL_law_1037 : decode cL_law 1037 = .ok (.iconst 0, 1) := by decide +kernel
theorem dL_law_1038 : decode cL_law 1038 = .ok (.ireturn, 1) := by decide +kernel
theorem dL_law_1039 : decode cL_law 1039 = .ok (.iload 5, 2) := by decide +kernel
theorem dL_law_1041 : decode cL_law 1041 = .ok (.ifCond .ne 15, 3) := by decide +kernel
theorem dL_law_1044 : decode cL_law 1044 = .ok (.aload_n 3, 1) := by decide +kernel
theorem dL_law_1045 : decode cL_law 1045 = .ok (.iconst 0, 1) := by decide +kernel
theorem dL_law_1046 : decode cL_law 1046 = .ok (.laload, 1) := by decide +kernel
theorem dL_law_1047 : decode cL_law 1047 = .ok (.iload 6, 2) := by decide +kernel
theorem dL_law_1049 : decode cL_law 1049 = .ok (.i2l, 1) := by decide +kernel
theorem dL_law_1050 : decode cL_law 1050 = .ok (.lcmp, 1) := by decide +kernel
theorem dL_law_1051 : decode cL_law 1051 = .ok (.ifCond .eq 5, 3) := by decide +kernel
theorem dL_law_1054 : decode cL_law 1054 = .ok (.iconst 0, 1) := by decide +kernel
theorem dL_law_1055 : decode cL_law 1055 = .ok (.ireturn, 1) := by decide +kernel
theorem dL_law_1056 : decode cL_law 1056 = .ok (.goto 330, 3) := by decide +kernel
theorem dL_law_1059 : decode cL_law 1059 = .ok (.aload_n 1, 1) := by decide +kernel
theorem dL_law_1060 : decode cL_law 1060 = .ok (.aload_n 0, 1) := by decide +kernel
theorem dL_law_1061 : decode cL_law 1061 = .ok (.iload 4, 2) := by decide +kernel
theorem dL_law_1063 : decode cL_law 1063 = .ok (.iconst 1, 1) := by decide +kernel
theorem dL_law_1064 : decode cL_law 1064 = .ok (.iadd, 1) := by decide +kernel
theorem dL_law_1065 : decode cL_law 1065 = .ok (.iaload, 1) := by decide +kernel
theorem dL_law_1066 : decode cL_law 1066 = .ok (.aload_n 0, 1) := by decide +kernel
theorem dL_law_1067 : decode cL_law 1067 = .ok (.iload 4, 2) := by decide +kernel
theorem dL_law_1069 : decode cL_law 1069 = .ok (.iconst 2, 1) := by decide +kernel
theorem dL_law_1070 : decode cL_law 1070 = .ok (.iadd, 1) := by decide +kernel
theorem dL_law_1071 : decode cL_law 1071 = .ok (.iaload, 1) := by decide +kernel
theorem dL_law_1072 : decode cL_law 1072 = .ok (.aload_n 0, 1) := by decide +kernel
theorem dL_law_1073 : decode cL_law 1073 = .ok (.iload 4, 2) := by decide +kernel
theorem dL_law_1075 : decode cL_law 1075 = .ok (.iconst 3, 1) := by decide +kernel
theorem dL_law_1076 : decode cL_law 1076 = .ok (.iadd, 1) := by decide +kernel
theorem dL_law_1077 : decode cL_law 1077 = .ok (.iaload, 1) := by decide +kernel
theorem dL_law_1078 : decode cL_law 1078 = .ok (.ifCond .eq 7, 3) := by decide +kernel
theorem dL_law_1081 : decode cL_law 1081 = .ok (.iconst 1, 1) := by decide +kernel
theorem dL_law_1082 : decode cL_law 1082 = .ok (.goto 4, 3) := by decide +kernel
theorem dL_law_1085 : decode cL_law 1085 = .ok (.iconst 0, 1) := by decide +kernel
theorem dL_law_1086 : decode cL_law 1086 = .ok (.aload_n 3, 1) := by decide +kernel
theorem dL_law_1087 : decode cL_law 1087 = .ok (.invokestatic 127, 3) := by decide +kernel
theorem dL_law_1090 : decode cL_law 1090 = .ok (.istore 5, 2) := by decide +kernel
theorem dL_law_1092 : decode cL_law 1092 = .ok (.aload_n 2, 1) := by decide +kernel
theorem dL_law_1093 : decode cL_law 1093 = .ok (.aload_n 0, 1) := by decide +kernel
theorem dL_law_1094 : decode cL_law 1094 = .ok (.iload 4, 2) := by decide +kernel
theorem dL_law_1096 : decode cL_law 1096 = .ok (.iconst 1, 1) := by decide +kernel
theorem dL_law_1097 : decode cL_law 1097 = .ok (.iadd, 1) := by decide +kernel
theorem dL_law_1098 : decode cL_law 1098 = .ok (.iaload, 1) := by decide +kernel
theorem dL_law_1099 : decode cL_law 1099 = .ok (.aload_n 0, 1) := by decide +kernel
theorem dL_law_1100 : decode cL_law 1100 = .ok (.iload 4, 2) := by decide +kernel
theorem dL_law_1102 : decode cL_law 1102 = .ok (.iconst 2, 1) := by decide +kernel
theorem dL_law_1103 : decode cL_law 1103 = .ok (.iadd, 1) := by decide +kernel
theorem dL_law_1104 : decode cL_law 1104 = .ok (.iaload, 1) := by decide +kernel
theorem dL_law_1105 : decode cL_law 1105 = .ok (.aload_n 0, 1) := by decide +kernel
theorem dL_law_1106 : decode cL_law 1106 = .ok (.iload 4, 2) := by decide +kernel
theorem dL_law_1108 : decode cL_law 1108 = .ok (.iconst 3, 1) := by decide +kernel
theorem dL_law_1109 : decode cL_law 1109 = .ok (.iadd, 1) := by decide +kernel
theorem dL_law_1110 : decode cL_law 1110 = .ok (.iaload, 1) := by decide +kernel
theorem dL_law_1111 : decode cL_law 1111 = .ok (.ifCond .eq 7, 3) := by decide +kernel
theorem dL_law_1114 : decode cL_law 1114 = .ok (.iconst 1, 1) := by decide +kernel
theorem dL_law_1115 : decode cL_law 1115 = .ok (.goto 4, 3) := by decide +kernel
theorem dL_law_1118 : decode cL_law 1118 = .ok (.iconst 0, 1) := by decide +kernel
theorem dL_law_1119 : decode cL_law 1119 = .ok (.invokevirtual 130, 3) := by decide +kernel
theorem dL_law_1122 : decode cL_law 1122 = .ok (.istore 6, 2) := by decide +kernel
theorem dL_law_1124 : decode cL_law 1124 = .ok (.aload_n 2, 1) := by decide +kernel
theorem dL_law_1125 : decode cL_law 1125 = .ok (.invokevirtual 85, 3) := by decide +kernel
theorem dL_law_1128 : decode cL_law 1128 = .ok (.iload 5, 2) := by decide +kernel
theorem dL_law_1130 : decode cL_law 1130 = .ok (.if_icmp .eq 5, 3) := by decide +kernel
theorem dL_law_1133 : decode cL_law 1133 = .ok (.iconst 0, 1) := by decide +kernel
theorem dL_law_1134 : decode cL_law 1134 = .ok (.ireturn, 1) := by decide +kernel
theorem dL_law_1135 : decode cL_law 1135 = .ok (.iload 5, 2) := by decide +kernel
theorem dL_law_1137 : decode cL_law 1137 = .ok (.ifCond .ne 15, 3) := by decide +kernel
theorem dL_law_1140 : decode cL_law 1140 = .ok (.aload_n 3, 1) := by decide +kernel
theorem dL_law_1141 : decode cL_law 1141 = .ok (.iconst 0, 1) := by decide +kernel
theorem dL_law_1142 : decode cL_law 1142 = .ok (.laload, 1) := by decide +kernel
theorem dL_law_1143 : decode cL_law 1143 = .ok (.iload 6, 2) := by decide +kernel
theorem dL_law_1145 : decode cL_law 1145 = .ok (.i2l, 1) := by decide +kernel
theorem dL_law_1146 : decode cL_law 1146 = .ok (.lcmp, 1) := by decide +kernel
theorem dL_law_1147 : decode cL_law 1147 = .ok (.ifCond .eq 5, 3) := by decide +kernel
theorem dL_law_1150 : decode cL_law 1150 = .ok (.iconst 0, 1) := by decide +kernel
theorem dL_law_1151 : decode cL_law 1151 = .ok (.ireturn, 1) := by decide +kernel
theorem dL_law_1152 : decode cL_law 1152 = .ok (.goto 234, 3) := by decide +kernel
theorem dL_law_1155 : decode cL_law 1155 = .ok (.aload_n 1, 1) := by decide +kernel
theorem dL_law_1156 : decode cL_law 1156 = .ok (.aload_n 0, 1) := by decide +kernel
theorem dL_law_1157 : decode cL_law 1157 = .ok (.iload 4, 2) := by decide +kernel
theorem dL_law_1159 : decode cL_law 1159 = .ok (.iconst 1, 1) := by decide +kernel
theorem dL_law_1160 : decode cL_law 1160 = .ok (.iadd, 1) := by decide +kernel
theorem dL_law_1161 : decode cL_law 1161 = .ok (.iaload, 1) := by decide +kernel
theorem dL_law_1162 : decode cL_law 1162 = .ok (.i2l, 1) := by decide +kernel
theorem dL_law_1163 : decode cL_law 1163 = .ok (.bipush 32, 2) := by decide +kernel
theorem dL_law_1165 : decode cL_law 1165 = .ok (.lshl, 1) := by decide +kernel
theorem dL_law_1166 : decode cL_law 1166 = .ok (.aload_n 0, 1) := by decide +kernel
theorem dL_law_1167 : decode cL_law 1167 = .ok (.iload 4, 2) := by decide +kernel
theorem dL_law_1169 : decode cL_law 1169 = .ok (.iconst 2, 1) := by decide +kernel
theorem dL_law_1170 : decode cL_law 1170 = .ok (.iadd, 1) := by decide +kernel
theorem dL_law_1171 : decode cL_law 1171 = .ok (.iaload, 1) := by decide +kernel
theorem dL_law_1172 : decode cL_law 1172 = .ok (.i2l, 1) := by decide +kernel
theorem dL_law_1173 : decode cL_law 1173 = .ok (.ldc2_w 131, 3) := by decide +kernel
theorem dL_law_1176 : decode cL_law 1176 = .ok (.land, 1) := by decide +kernel
theorem dL_law_1177 : decode cL_law 1177 = .ok (.lor, 1) := by decide +kernel
theorem dL_law_1178 : decode cL_law 1178 = .ok (.aload_n 0, 1) := by decide +kernel
theorem dL_law_1179 : decode cL_law 1179 = .ok (.iload 4, 2) := by decide +kernel
theorem dL_law_1181 : decode cL_law 1181 = .ok (.iconst 3, 1) := by decide +kernel
theorem dL_law_1182 : decode cL_law 1182 = .ok (.iadd, 1) := by decide +kernel
theorem dL_law_1183 : decode cL_law 1183 = .ok (.iaload, 1) := by decide +kernel
theorem dL_law_1184 : decode cL_law 1184 = .ok (.i2l, 1) := by decide +kernel
theorem dL_law_1185 : decode cL_law 1185 = .ok (.bipush 32, 2) := by decide +kernel
theorem dL_law_1187 : decode cL_law 1187 = .ok (.lshl, 1) := by decide +kernel
theorem dL_law_1188 : decode cL_law 1188 = .ok (.aload_n 0, 1) := by decide +kernel
theorem dL_law_1189 : decode cL_law 1189 = .ok (.iload 4, 2) := by decide +kernel
theorem dL_law_1191 : decode cL_law 1191 = .ok (.iconst 4, 1) := by decide +kernel
theorem dL_law_1192 : decode cL_law 1192 = .ok (.iadd, 1) := by decide +kernel
theorem dL_law_1193 : decode cL_law 1193 = .ok (.iaload, 1) := by decide +kernel
theorem dL_law_1194 : decode cL_law 1194 = .ok (.i2l, 1) := by decide +kernel
theorem dL_law_1195 : decode cL_law 1195 = .ok (.ldc2_w 131, 3) := by decide +kernel
theorem dL_law_1198 : decode cL_law 1198 = .ok (.land, 1) := by decide +kernel
theorem dL_law_1199 : decode cL_law 1199 = .ok (.lor, 1) := by decide +kernel
theorem dL_law_1200 : decode cL_law 1200 = .ok (.aload_n 0, 1) := by decide +kernel
theorem dL_law_1201 : decode cL_law 1201 = .ok (.iload 4, 2) := by decide +kernel
theorem dL_law_1203 : decode cL_law 1203 = .ok (.iconst 5, 1) := by decide +kernel
theorem dL_law_1204 : decode cL_law 1204 = .ok (.iadd, 1) := by decide +kernel
theorem dL_law_1205 : decode cL_law 1205 = .ok (.iaload, 1) := by decide +kernel
theorem dL_law_1206 : decode cL_law 1206 = .ok (.ifCond .eq 7, 3) := by decide +kernel
theorem dL_law_1209 : decode cL_law 1209 = .ok (.iconst 1, 1) := by decide +kernel
theorem dL_law_1210 : decode cL_law 1210 = .ok (.goto 4, 3) := by decide +kernel
theorem dL_law_1213 : decode cL_law 1213 = .ok (.iconst 0, 1) := by decide +kernel
theorem dL_law_1214 : decode cL_law 1214 = .ok (.aload_n 3, 1) := by decide +kernel
theorem dL_law_1215 : decode cL_law 1215 = .ok (.invokestatic 133, 3) := by decide +kernel
theorem dL_law_1218 : decode cL_law 1218 = .ok (.istore 5, 2) := by decide +kernel
theorem dL_law_1220 : decode cL_law 1220 = .ok (.aload_n 2, 1) := by decide +kernel
theorem dL_law_1221 : decode cL_law 1221 = .ok (.aload_n 0, 1) := by decide +kernel
theorem dL_law_1222 : decode cL_law 1222 = .ok (.iload 4, 2) := by decide +kernel
theorem dL_law_1224 : decode cL_law 1224 = .ok (.iconst 1, 1) := by decide +kernel
theorem dL_law_1225 : decode cL_law 1225 = .ok (.iadd, 1) := by decide +kernel
theorem dL_law_1226 : decode cL_law 1226 = .ok (.iaload, 1) := by decide +kernel
theorem dL_law_1227 : decode cL_law 1227 = .ok (.i2l, 1) := by decide +kernel
theorem dL_law_1228 : decode cL_law 1228 = .ok (.bipush 32, 2) := by decide +kernel
theorem dL_law_1230 : decode cL_law 1230 = .ok (.lshl, 1) := by decide +kernel
theorem dL_law_1231 : decode cL_law 1231 = .ok (.aload_n 0, 1) := by decide +kernel
theorem dL_law_1232 : decode cL_law 1232 = .ok (.iload 4, 2) := by decide +kernel
theorem dL_law_1234 : decode cL_law 1234 = .ok (.iconst 2, 1) := by decide +kernel
theorem dL_law_1235 : decode cL_law 1235 = .ok (.iadd, 1) := by decide +kernel
theorem dL_law_1236 : decode cL_law 1236 = .ok (.iaload, 1) := by decide +kernel
theorem dL_law_1237 : decode cL_law 1237 = .ok (.i2l, 1) := by decide +kernel
theorem dL_law_1238 : decode cL_law 1238 = .ok (.ldc2_w 131, 3) := by decide +kernel
theorem dL_law_1241 : decode cL_law 1241 = .ok (.land, 1) := by decide +kernel
theorem dL_law_1242 : decode cL_law 1242 = .ok (.lor, 1) := by decide +kernel
theorem dL_law_1243 : decode cL_law 1243 = .ok (.aload_n 0, 1) := by decide +kernel
theorem dL_law_1244 : decode cL_law 1244 = .ok (.iload 4, 2) := by decide +kernel
theorem dL_law_1246 : decode cL_law 1246 = .ok (.iconst 3, 1) := by decide +kernel
theorem dL_law_1247 : decode cL_law 1247 = .ok (.iadd, 1) := by decide +kernel
theorem dL_law_1248 : decode cL_law 1248 = .ok (.iaload, 1) := by decide +kernel
theorem dL_law_1249 : decode cL_law 1249 = .ok (.i2l, 1) := by decide +kernel
theorem dL_law_1250 : decode cL_law 1250 = .ok (.bipush 32, 2) := by decide +kernel
theorem dL_law_1252 : decode cL_law 1252 = .ok (.lshl, 1) := by decide +kernel
theorem dL_law_1253 : decode cL_law 1253 = .ok (.aload_n 0, 1) := by decide +kernel
theorem dL_law_1254 : decode cL_law 1254 = .ok (.iload 4, 2) := by decide +kernel
theorem dL_law_1256 : decode cL_law 1256 = .ok (.iconst 4, 1) := by decide +kernel
theorem dL_law_1257 : decode cL_law 1257 = .ok (.iadd, 1) := by decide +kernel
theorem dL_law_1258 : decode cL_law 1258 = .ok (.iaload, 1) := by decide +kernel
theorem dL_law_1259 : decode cL_law 1259 = .ok (.i2l, 1) := by decide +kernel
theorem dL_law_1260 : decode cL_law 1260 = .ok (.ldc2_w 131, 3) := by decide +kernel
theorem dL_law_1263 : decode cL_law 1263 = .ok (.land, 1) := by decide +kernel
theorem dL_law_1264 : decode cL_law 1264 = .ok (.lor, 1) := by decide +kernel
theorem dL_law_1265 : decode cL_law 1265 = .ok (.aload_n 0, 1) := by decide +kernel
theorem dL_law_1266 : decode cL_law 1266 = .ok (.iload 4, 2) := by decide +kernel
theorem dL_law_1268 : decode cL_law 1268 = .ok (.iconst 5, 1) := by decide +kernel
theorem dL_law_1269 : decode cL_law 1269 = .ok (.iadd, 1) := by decide +kernel
theorem dL_law_1270 : decode cL_law 1270 = .ok (.iaload, 1) := by decide +kernel
theorem dL_law_1271 : decode cL_law 1271 = .ok (.ifCond .eq 7, 3) := by decide +kernel
theorem dL_law_1274 : decode cL_law 1274 = .ok (.iconst 1, 1) := by decide +kernel
theorem dL_law_1275 : decode cL_law 1275 = .ok (.goto 4, 3) := by decide +kernel
theorem dL_law_1278 : decode cL_law 1278 = .ok (.iconst 0, 1) := by decide +kernel
theorem dL_law_1279 : decode cL_law 1279 = .ok (.invokevirtual 136, 3) := by decide +kernel
theorem dL_law_1282 : decode cL_law 1282 = .ok (.lstore 6, 2) := by decide +kernel
theorem dL_law_1284 : decode cL_law 1284 = .ok (.aload_n 2, 1) := by decide +kernel
theorem dL_law_1285 : decode cL_law 1285 = .ok (.invokevirtual 85, 3) := by decide +kernel
theorem dL_law_1288 : decode cL_law 1288 = .ok (.iload 5, 2) := by decide +kernel
theorem dL_law_1290 : decode cL_law 1290 = .ok (.if_icmp .eq 5, 3) := by decide +kernel
theorem dL_law_1293 : decode cL_law 1293 = .ok (.iconst 0, 1) := by decide +kernel
theorem dL_law_1294 : decode cL_law 1294 = .ok (.ireturn, 1) := by decide +kernel
theorem dL_law_1295 : decode cL_law 1295 = .ok (.iload 5, 2) := by decide +kernel
theorem dL_law_1297 : decode cL_law 1297 = .ok (.ifCond .ne 14, 3) := by decide +kernel
theorem dL_law_1300 : decode cL_law 1300 = .ok (.aload_n 3, 1) := by decide +kernel
theorem dL_law_1301 : decode cL_law 1301 = .ok (.iconst 0, 1) := by decide +kernel
theorem dL_law_1302 : decode cL_law 1302 = .ok (.laload, 1) := by decide +kernel
theorem dL_law_1303 : decode cL_law 1303 = .ok (.lload 6, 2) := by decide +kernel
theorem dL_law_1305 : decode cL_law 1305 = .ok (.lcmp, 1) := by decide +kernel
theorem dL_law_1306 : decode cL_law 1306 = .ok (.ifCond .eq 5, 3) := by decide +kernel
theorem dL_law_1309 : decode cL_law 1309 = .ok (.iconst 0, 1) := by decide +kernel
theorem dL_law_1310 : decode cL_law 1310 = .ok (.ireturn, 1) := by decide +kernel
theorem dL_law_1311 : decode cL_law 1311 = .ok (.goto 75, 3) := by decide +kernel
theorem dL_law_1314 : decode cL_law 1314 = .ok (.aload_n 1, 1) := by decide +kernel
theorem dL_law_1315 : decode cL_law 1315 = .ok (.aload_n 0, 1) := by decide +kernel
theorem dL_law_1316 : decode cL_law 1316 = .ok (.iload 4, 2) := by decide +kernel
theorem dL_law_1318 : decode cL_law 1318 = .ok (.iconst 1, 1) := by decide +kernel
theorem dL_law_1319 : decode cL_law 1319 = .ok (.iadd, 1) := by decide +kernel
theorem dL_law_1320 : decode cL_law 1320 = .ok (.iaload, 1) := by decide +kernel
theorem dL_law_1321 : decode cL_law 1321 = .ok (.ifCond .eq 7, 3) := by decide +kernel
theorem dL_law_1324 : decode cL_law 1324 = .ok (.iconst 1, 1) := by decide +kernel
theorem dL_law_1325 : decode cL_law 1325 = .ok (.goto 4, 3) := by decide +kernel
theorem dL_law_1328 : decode cL_law 1328 = .ok (.iconst 0, 1) := by decide +kernel
theorem dL_law_1329 : decode cL_law 1329 = .ok (.aload_n 3, 1) := by decide +kernel
theorem dL_law_1330 : decode cL_law 1330 = .ok (.invokestatic 137, 3) := by decide +kernel
theorem dL_law_1333 : decode cL_law 1333 = .ok (.istore 5, 2) := by decide +kernel
theorem dL_law_1335 : decode cL_law 1335 = .ok (.aload_n 2, 1) := by decide +kernel
theorem dL_law_1336 : decode cL_law 1336 = .ok (.aload_n 0, 1) := by decide +kernel
theorem dL_law_1337 : decode cL_law 1337 = .ok (.iload 4, 2) := by decide +kernel
theorem dL_law_1339 : decode cL_law 1339 = .ok (.iconst 1, 1) := by decide +kernel
theorem dL_law_1340 : decode cL_law 1340 = .ok (.iadd, 1) := by decide +kernel
theorem dL_law_1341 : decode cL_law 1341 = .ok (.iaload, 1) := by decide +kernel
theorem dL_law_1342 : decode cL_law 1342 = .ok (.ifCond .eq 7, 3) := by decide +kernel
theorem dL_law_1345 : decode cL_law 1345 = .ok (.iconst 1, 1) := by decide +kernel
theorem dL_law_1346 : decode cL_law 1346 = .ok (.goto 4, 3) := by decide +kernel
theorem dL_law_1349 : decode cL_law 1349 = .ok (.iconst 0, 1) := by decide +kernel
theorem dL_law_1350 : decode cL_law 1350 = .ok (.invokevirtual 140, 3) := by decide +kernel
theorem dL_law_1353 : decode cL_law 1353 = .ok (.istore 6, 2) := by decide +kernel
theorem dL_law_1355 : decode cL_law 1355 = .ok (.aload_n 2, 1) := by decide +kernel
theorem dL_law_1356 : decode cL_law 1356 = .ok (.invokevirtual 85, 3) := by decide +kernel
theorem dL_law_1359 : decode cL_law 1359 = .ok (.iload 5, 2) := by decide +kernel
theorem dL_law_1361 : decode cL_law 1361 = .ok (.if_icmp .eq 5, 3) := by decide +kernel
theorem dL_law_1364 : decode cL_law 1364 = .ok (.iconst 0, 1) := by decide +kernel
theorem dL_law_1365 : decode cL_law 1365 = .ok (.ireturn, 1) := by decide +kernel
theorem dL_law_1366 : decode cL_law 1366 = .ok (.iload 5, 2) := by decide +kernel
theorem dL_law_1368 : decode cL_law 1368 = .ok (.ifCond .ne 15, 3) := by decide +kernel
theorem dL_law_1371 : decode cL_law 1371 = .ok (.aload_n 3, 1) := by decide +kernel
theorem dL_law_1372 : decode cL_law 1372 = .ok (.iconst 0, 1) := by decide +kernel
theorem dL_law_1373 : decode cL_law 1373 = .ok (.laload, 1) := by decide +kernel
theorem dL_law_1374 : decode cL_law 1374 = .ok (.iload 6, 2) := by decide +kernel
theorem dL_law_1376 : decode cL_law 1376 = .ok (.i2l, 1) := by decide +kernel
theorem dL_law_1377 : decode cL_law 1377 = .ok (.lcmp, 1) := by decide +kernel
theorem dL_law_1378 : decode cL_law 1378 = .ok (.ifCond .eq 5, 3) := by decide +kernel
theorem dL_law_1381 : decode cL_law 1381 = .ok (.iconst 0, 1) := by decide +kernel
theorem dL_law_1382 : decode cL_law 1382 = .ok (.ireturn, 1) := by decide +kernel
theorem dL_law_1383 : decode cL_law 1383 = .ok (.goto 3, 3) := by decide +kernel
theorem dL_law_1386 : decode cL_law 1386 = .ok (.iinc 4 6, 3) := by decide +kernel
theorem dL_law_1389 : decode cL_law 1389 = .ok (.goto (-1366), 3) := by decide +kernel
theorem dL_law_1392 : decode cL_law 1392 = .ok (.iconst 1, 1) := by decide +kernel
theorem dL_law_1393 : decode cL_law 1393 = .ok (.ireturn, 1) := by decide +kernel
end
