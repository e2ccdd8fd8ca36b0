section XWA
variable {l : Launch} {s0 : State} {a0 : Array Value} {dC : Nat → ClassId} {dI : Nat → Nat → Nat} {cA : Nat → ClassId} {s : State} {args : Array Value}
theorem k_0 (h : xC l s0 a0 dC dI cA) (hb : xb s0 s) : (Cond.initialized RL).before args s = true := h.w hb 5 rfl rfl
theorem k_1 (h : xC l s0 a0 dC dI cA) (hb : xb s0 s) : (Cond.initialized RX5).before args s = true := h.w hb 6 rfl rfl
theorem k_2 (h : xC l s0 a0 dC dI cA) (hb : xb s0 s) : (Cond.initialized RX4).before args s = true := h.w hb 7 rfl rfl
theorem k_3 (h : xC l s0 a0 dC dI cA) (hb : xb s0 s) : (Cond.initialized RX3).before args s = true := h.w hb 8 rfl rfl
theorem k_4 (h : xC l s0 a0 dC dI cA) (hb : xb s0 s) : (Cond.initialized RX1).before args s = true := h.w hb 9 rfl rfl
theorem k_5 (h : xC l s0 a0 dC dI cA) (hb : xb s0 s) : (Cond.initialized RX6).before args s = true := h.w hb 10 rfl rfl
theorem k_6 (h : xC l s0 a0 dC dI cA) (hb : xb s0 s) : (Cond.initialized "java/lang/Throwable").before args s = true := h.w hb 11 rfl rfl
theorem k_7 (h : xC l s0 a0 dC dI cA) (hb : xb s0 s) : (Cond.initialized "java/lang/Exception").before args s = true := h.w hb 12 rfl rfl
theorem k_8 (h : xC l s0 a0 dC dI cA) (hb : xb s0 s) : (Cond.initialized "java/lang/RuntimeException").before args s = true := h.w hb 13 rfl rfl
theorem k_9 (h : xC l s0 a0 dC dI cA) (hb : xb s0 s) : (Cond.initialized "java/lang/NullPointerException").before args s = true := h.w hb 14 rfl rfl
theorem k_10 (h : xC l s0 a0 dC dI cA) (hb : xb s0 s) : (Cond.initialized "java/lang/IndexOutOfBoundsException").before args s = true := h.w hb 15 rfl rfl
theorem k_11 (h : xC l s0 a0 dC dI cA) (hb : xb s0 s) : (Cond.initialized "java/lang/ArrayIndexOutOfBoundsException").before args s = true := h.w hb 16 rfl rfl
theorem k_12 (h : xC l s0 a0 dC dI cA) (hb : xb s0 s) : (Cond.initialized "java/lang/NegativeArraySizeException").before args s = true := h.w hb 17 rfl rfl
theorem k_13 (h : xC l s0 a0 dC dI cA) (hb : xb s0 s) : (Cond.initialized RX0).before args s = true := h.w hb 18 rfl rfl
theorem k_14 (h : xC l s0 a0 dC dI cA) (hb : xb s0 s) : (Cond.initialized RX2).before args s = true := h.w hb 19 rfl rfl
theorem k_15 (h : xC l s0 a0 dC dI cA) (hb : xb s0 s) : (Cond.initialized "java/lang/ArrayStoreException").before args s = true := h.w hb 20 rfl rfl
theorem k_16 (h : xC l s0 a0 dC dI cA) (hb : xb s0 s) : (Cond.initialized "java/lang/ClassCastException").before args s = true := h.w hb 21 rfl rfl
theorem k_17 (h : xC l s0 a0 dC dI cA) (hb : xb s0 s) : (Cond.initialized "java/lang/ArithmeticException").before args s = true := h.w hb 22 rfl rfl
theorem k_18 (h : xC l s0 a0 dC dI cA) (hb : xb s0 s) : (Cond.classLink RL 8 RX5).before args s = true := h.w hb 23 rfl rfl
theorem k_19 (h : xC l s0 a0 dC dI cA) (hb : xb s0 s) : (Cond.instantiable RX5 5).before args s = true := h.w hb 24 rfl rfl
theorem k_20 (h : xC l s0 a0 dC dI cA) (hb : xb s0 s) : (Cond.methodLink RL 75 yX5_init).before args s = true := h.w hb 25 rfl rfl
theorem k_21 (h : xC l s0 a0 dC dI cA) (hb : xb s0 s) : (Cond.instanceMethod yX5_init).before args s = true := h.w hb 26 rfl rfl
theorem k_22 (h : xC l s0 a0 dC dI cA) (hb : xb s0 s) : (Cond.code yX5_init cX5_init 1 none).before args s = true := h.w hb 27 rfl rfl
theorem k_23 (h : xC l s0 a0 dC dI cA) (hb : xb s0 s) : (Cond.methodLink RX5 1 ⟨"java/lang/Object", "<init>", "()V"⟩).before args s = true := h.w hb 28 rfl rfl
theorem k_24 (h : xC l s0 a0 dC dI cA) (hb : xb s0 s) : (Cond.instanceMethod ⟨"java/lang/Object", "<init>", "()V"⟩).before args s = true := h.w hb 29 rfl rfl
theorem k_25 (h : xC l s0 a0 dC dI cA) (hb : xb s0 s) : (Cond.code ⟨"java/lang/Object", "<init>", "()V"⟩ object_method_1_code 1 none).before args s = true := h.w hb 30 rfl rfl
theorem k_26 (h : xC l s0 a0 dC dI cA) (hb : xb s0 s) : (Cond.classLink RX5 7 RX4).before args s = true := h.w hb 31 rfl rfl
theorem k_27 (h : xC l s0 a0 dC dI cA) (hb : xb s0 s) : (Cond.instantiable RX4 9).before args s = true := h.w hb 32 rfl rfl
theorem k_28 (h : xC l s0 a0 dC dI cA) (hb : xb s0 s) : (Cond.methodLink RX5 9 yX4_init).before args s = true := h.w hb 33 rfl rfl
theorem k_29 (h : xC l s0 a0 dC dI cA) (hb : xb s0 s) : (Cond.instanceMethod yX4_init).before args s = true := h.w hb 34 rfl rfl
theorem k_30 (h : xC l s0 a0 dC dI cA) (hb : xb s0 s) : (Cond.code yX4_init cX4_init 2 none).before args s = true := h.w hb 35 rfl rfl
theorem k_31 (h : xC l s0 a0 dC dI cA) (hb : xb s0 s) : (Cond.methodLink RX4 3 ⟨"java/lang/Object", "<init>", "()V"⟩).before args s = true := h.w hb 36 rfl rfl
theorem k_32 (h : xC l s0 a0 dC dI cA) (hb : xb s0 s) : (Cond.fieldLink RX4 9 "FaultBench$Rows" "lengths" "[I").before args s = true := h.w hb 37 rfl rfl
theorem k_33 (h : xC l s0 a0 dC dI cA) (hb : xb s0 s) : (Cond.fieldLink RX4 15 "FaultBench$Rows" "ints" "[I").before args s = true := h.w hb 38 rfl rfl
theorem k_34 (h : xC l s0 a0 dC dI cA) (hb : xb s0 s) : (Cond.fieldLink RX4 18 "FaultBench$Rows" "longs" "[J").before args s = true := h.w hb 39 rfl rfl
theorem k_35 (h : xC l s0 a0 dC dI cA) (hb : xb s0 s) : (Cond.fieldLink RX4 22 "FaultBench$Rows" "shorts" "[S").before args s = true := h.w hb 40 rfl rfl
theorem k_36 (h : xC l s0 a0 dC dI cA) (hb : xb s0 s) : (Cond.fieldLink RX4 26 "FaultBench$Rows" "bytes" "[B").before args s = true := h.w hb 41 rfl rfl
theorem k_37 (h : xC l s0 a0 dC dI cA) (hb : xb s0 s) : (Cond.fieldLink RX4 30 "FaultBench$Rows" "chars" "[C").before args s = true := h.w hb 42 rfl rfl
theorem k_38 (h : xC l s0 a0 dC dI cA) (hb : xb s0 s) : (Cond.fieldLink RX4 34 "FaultBench$Rows" "booleans" "[Z").before args s = true := h.w hb 43 rfl rfl
theorem k_39 (h : xC l s0 a0 dC dI cA) (hb : xb s0 s) : (Cond.fieldLink RX4 38 "FaultBench$Rows" "floats" "[F").before args s = true := h.w hb 44 rfl rfl
theorem k_40 (h : xC l s0 a0 dC dI cA) (hb : xb s0 s) : (Cond.fieldLink RX4 42 "FaultBench$Rows" "doubles" "[D").before args s = true := h.w hb 45 rfl rfl
theorem k_60 (h : xC l s0 a0 dC dI cA) (hb : xb s0 s) : (Cond.arrayClass .int).before args s = true := h.ar hb 65 rfl
theorem k_61 (h : xC l s0 a0 dC dI cA) (hb : xb s0 s) : (Cond.arrayClass .long).before args s = true := h.ar hb 66 rfl
theorem k_62 (h : xC l s0 a0 dC dI cA) (hb : xb s0 s) : (Cond.arrayClass .short).before args s = true := h.ar hb 67 rfl
theorem k_63 (h : xC l s0 a0 dC dI cA) (hb : xb s0 s) : (Cond.arrayClass .byte).before args s = true := h.ar hb 68 rfl
theorem k_64 (h : xC l s0 a0 dC dI cA) (hb : xb s0 s) : (Cond.arrayClass .char).before args s = true := h.ar hb 69 rfl
theorem k_65 (h : xC l s0 a0 dC dI cA) (hb : xb s0 s) : (Cond.arrayClass .boolean).before args s = true := h.ar hb 70 rfl
theorem k_66 (h : xC l s0 a0 dC dI cA) (hb : xb s0 s) : (Cond.arrayClass .float).before args s = true := h.ar hb 71 rfl
theorem k_67 (h : xC l s0 a0 dC dI cA) (hb : xb s0 s) : (Cond.arrayClass .double).before args s = true := h.ar hb 72 rfl
theorem k_68 (h : xC l s0 a0 dC dI cA) (hb : xb s0 s) : (Cond.classLink RX5 16 RX3).before args s = true := h.w hb 73 rfl rfl
theorem k_69 (h : xC l s0 a0 dC dI cA) (hb : xb s0 s) : (Cond.instantiable RX3 4).before args s = true := h.w hb 74 rfl rfl
theorem k_70 (h : xC l s0 a0 dC dI cA) (hb : xb s0 s) : (Cond.methodLink RX5 18 yX3_init).before args s = true := h.w hb 75 rfl rfl
theorem k_71 (h : xC l s0 a0 dC dI cA) (hb : xb s0 s) : (Cond.instanceMethod yX3_init).before args s = true := h.w hb 76 rfl rfl
theorem k_72 (h : xC l s0 a0 dC dI cA) (hb : xb s0 s) : (Cond.code yX3_init cX3_init 3 none).before args s = true := h.w hb 77 rfl rfl
theorem k_73 (h : xC l s0 a0 dC dI cA) (hb : xb s0 s) : (Cond.methodLink RX3 3 ⟨"java/lang/Object", "<init>", "()V"⟩).before args s = true := h.w hb 78 rfl rfl
theorem k_74 (h : xC l s0 a0 dC dI cA) (hb : xb s0 s) : (Cond.classLink RX3 11 "[[I").before args s = true := h.w hb 79 rfl rfl
theorem k_76 (h : xC l s0 a0 dC dI cA) (hb : xb s0 s) : (Cond.fieldLink RX3 13 "FaultBench$Grid" "cells" "[[I").before args s = true := h.w hb 81 rfl rfl
theorem k_77 (h : xC l s0 a0 dC dI cA) (hb : xb s0 s) : (Cond.fieldLink RX3 16 "FaultBench$Grid" "made" "Z").before args s = true := h.w hb 82 rfl rfl
theorem k_78 (h : xC l s0 a0 dC dI cA) (hb : xb s0 s) : (Cond.fieldLink RX3 20 "FaultBench$Grid" "height" "I").before args s = true := h.w hb 83 rfl rfl
theorem k_79 (h : xC l s0 a0 dC dI cA) (hb : xb s0 s) : (Cond.fieldLink RX3 24 "FaultBench$Grid" "width" "I").before args s = true := h.w hb 84 rfl rfl
theorem k_89 (h : xC l s0 a0 dC dI cA) (hb : xb s0 s) : (Cond.classLink RX5 23 RX1).before args s = true := h.w hb 94 rfl rfl
theorem k_90 (h : xC l s0 a0 dC dI cA) (hb : xb s0 s) : (Cond.instantiable RX1 4).before args s = true := h.w hb 95 rfl rfl
theorem k_92 (h : xC l s0 a0 dC dI cA) (hb : xb s0 s) : (Cond.instanceMethod yX1_init).before args s = true := h.w hb 97 rfl rfl
theorem k_93 (h : xC l s0 a0 dC dI cA) (hb : xb s0 s) : (Cond.code yX1_init cX1_init 1 none).before args s = true := h.w hb 98 rfl rfl
theorem k_94 (h : xC l s0 a0 dC dI cA) (hb : xb s0 s) : (Cond.methodLink RX1 3 ⟨"java/lang/Object", "<init>", "()V"⟩).before args s = true := h.w hb 99 rfl rfl
theorem k_95 (h : xC l s0 a0 dC dI cA) (hb : xb s0 s) : (Cond.classLink RX1 9 RX0).before args s = true := h.w hb 100 rfl rfl
theorem k_97 (h : xC l s0 a0 dC dI cA) (hb : xb s0 s) : (Cond.fieldLink RX1 11 "FaultBench$BoxRow" "places" "[LFaultBench$Box;").before args s = true := h.w hb 102 rfl rfl
theorem k_98 (h : xC l s0 a0 dC dI cA) (hb : xb s0 s) : (Cond.fieldLink RX1 17 "FaultBench$BoxRow" "made" "Z").before args s = true := h.w hb 103 rfl rfl
theorem k_99 (h : xC l s0 a0 dC dI cA) (hb : xb s0 s) : (Cond.fieldLink RX1 21 "FaultBench$BoxRow" "discsAlone" "Z").before args s = true := h.w hb 104 rfl rfl
theorem k_100 (h : xC l s0 a0 dC dI cA) (hb : xb s0 s) : (Cond.fieldLink RX1 24 "FaultBench$BoxRow" "count" "I").before args s = true := h.w hb 105 rfl rfl
theorem k_110 (h : xC l s0 a0 dC dI cA) (hb : xb s0 s) : (Cond.fieldLink RX5 10 "FaultBench" "rows" "LFaultBench$Rows;").before args s = true := h.w hb 115 rfl rfl
theorem k_111 (h : xC l s0 a0 dC dI cA) (hb : xb s0 s) : (Cond.fieldLink RX5 19 "FaultBench" "grid" "LFaultBench$Grid;").before args s = true := h.w hb 116 rfl rfl
theorem k_112 (h : xC l s0 a0 dC dI cA) (hb : xb s0 s) : (Cond.fieldLink RX5 26 "FaultBench" "boxRow" "LFaultBench$BoxRow;").before args s = true := h.w hb 117 rfl rfl
theorem k_113 (h : xC l s0 a0 dC dI cA) (hb : xb s0 s) : (Cond.fieldLink RX5 30 "FaultBench" "written" "I").before args s = true := h.w hb 118 rfl rfl
theorem k_114 (h : xC l s0 a0 dC dI cA) (hb : xb s0 s) : (Cond.fieldLink RX5 34 "FaultBench" "came" "I").before args s = true := h.w hb 119 rfl rfl
theorem k_126 (h : xC l s0 a0 dC dI cA) (hb : xb s0 s) : (Cond.methodLink RL 79 yL_read).before args s = true := h.w hb 131 rfl rfl
theorem k_127 (h : xC l s0 a0 dC dI cA) (hb : xb s0 s) : (Cond.static yL_read).before args s = true := h.w hb 132 rfl rfl
theorem k_128 (h : xC l s0 a0 dC dI cA) (hb : xb s0 s) : (Cond.codeWith yL_read cL_read 6 (some .int) [(0, 11, 14, 13), (0, 11, 18, 15)]).before args s = true := h.w hb 133 rfl rfl
theorem k_129 (h : xC l s0 a0 dC dI cA) (hb : xb s0 s) : (Cond.classLink RL 13 "java/lang/NullPointerException").before args s = true := h.w hb 134 rfl rfl
theorem k_130 (h : xC l s0 a0 dC dI cA) (hb : xb s0 s) : (Cond.classLink RL 15 "java/lang/ArrayIndexOutOfBoundsException").before args s = true := h.w hb 135 rfl rfl
theorem k_131 (h : xC l s0 a0 dC dI cA) (hb : xb s0 s) : (Cond.methodLink RL 7 yX5_read).before args s = true := h.w hb 136 rfl rfl
theorem k_132 (h : xC l s0 a0 dC dI cA) (hb : xb s0 s) : (Cond.instanceMethod yX5_read).before args s = true := h.w hb 137 rfl rfl
theorem k_133 (h : xC l s0 a0 dC dI cA) (hb : xb s0 s) : (Cond.selects RX5 yX5_read yX5_read).before args s = true := h.w hb 138 rfl rfl
theorem k_134 (h : xC l s0 a0 dC dI cA) (hb : xb s0 s) : (Cond.code yX5_read cX5_read 5 (some .long)).before args s = true := h.w hb 139 rfl rfl
theorem k_135 (h : xC l s0 a0 dC dI cA) (hb : xb s0 s) : (Cond.methodLink RX5 37 yX5_kindOf).before args s = true := h.w hb 140 rfl rfl
theorem k_136 (h : xC l s0 a0 dC dI cA) (hb : xb s0 s) : (Cond.static yX5_kindOf).before args s = true := h.w hb 141 rfl rfl
theorem k_137 (h : xC l s0 a0 dC dI cA) (hb : xb s0 s) : (Cond.code yX5_kindOf cX5_kindOf 1 (some .int)).before args s = true := h.w hb 142 rfl rfl
theorem k_138 (h : xC l s0 a0 dC dI cA) (hb : xb s0 s) : (Cond.methodLink RX5 41 yX5_needThere).before args s = true := h.w hb 143 rfl rfl
theorem k_139 (h : xC l s0 a0 dC dI cA) (hb : xb s0 s) : (Cond.static yX5_needThere).before args s = true := h.w hb 144 rfl rfl
theorem k_140 (h : xC l s0 a0 dC dI cA) (hb : xb s0 s) : (Cond.code yX5_needThere cX5_needThere 1 none).before args s = true := h.w hb 145 rfl rfl
theorem k_141 (h : xC l s0 a0 dC dI cA) (hb : xb s0 s) : (Cond.classLink RX5 136 "java/lang/NullPointerException").before args s = true := h.w hb 146 rfl rfl
theorem k_142 (h : xC l s0 a0 dC dI cA) (hb : xb s0 s) : (Cond.instantiable "java/lang/NullPointerException" 8).before args s = true := h.w hb 147 rfl rfl
theorem k_143 (h : xC l s0 a0 dC dI cA) (hb : xb s0 s) : (Cond.castable "java/lang/NullPointerException" "java/lang/NullPointerException").before args s = true := h.w hb 148 rfl rfl
theorem k_150 (h : xC l s0 a0 dC dI cA) (hb : xb s0 s) : (Cond.selects "java/lang/NullPointerException" ⟨"java/lang/Throwable", "fillInStackTrace", "(I)Ljava/lang/Throwable;"⟩ ⟨"java/lang/Throwable", "fillInStackTrace", "(I)Ljava/lang/Throwable;"⟩).before args s = true := h.w hb 155 rfl rfl
theorem k_161 (h : xC l s0 a0 dC dI cA) (hb : xb s0 s) : (Cond.fieldLink "java/lang/Throwable" 198 "java/lang/Throwable" "backtrace" "Ljava/lang/Object;").before args s = true := h.w hb 166 rfl rfl
theorem k_163 (h : xC l s0 a0 dC dI cA) (hb : xb s0 s) : (Cond.instanceMethod ⟨"java/lang/Throwable", "<init>", "()V"⟩).before args s = true := h.w hb 168 rfl rfl
theorem k_164 (h : xC l s0 a0 dC dI cA) (hb : xb s0 s) : (Cond.code ⟨"java/lang/Throwable", "<init>", "()V"⟩ prog_19_method_1_code 1 none).before args s = true := h.w hb 169 rfl rfl
theorem k_165 (h : xC l s0 a0 dC dI cA) (hb : xb s0 s) : (Cond.methodLink "java/lang/Throwable" 1 ⟨"java/lang/Object", "<init>", "()V"⟩).before args s = true := h.w hb 170 rfl rfl
theorem k_166 (h : xC l s0 a0 dC dI cA) (hb : xb s0 s) : (Cond.fieldLink "java/lang/Throwable" 13 "java/lang/Throwable" "UNASSIGNED_STACK" "[Ljava/lang/StackTraceElement;").before args s = true := h.w hb 171 rfl rfl
theorem k_168 (h : xC l s0 a0 dC dI cA) (hb : xb s0 s) : (Cond.fieldLink "java/lang/Throwable" 20 "java/lang/Throwable" "SUPPRESSED_SENTINEL" "Ljava/util/List;").before args s = true := h.w hb 173 rfl rfl
theorem k_170 (h : xC l s0 a0 dC dI cA) (hb : xb s0 s) : (Cond.methodLink "java/lang/Throwable" 27 ⟨"java/lang/Throwable", "fillInStackTrace", "()Ljava/lang/Throwable;"⟩).before args s = true := h.w hb 175 rfl rfl
theorem k_171 (h : xC l s0 a0 dC dI cA) (hb : xb s0 s) : (Cond.instanceMethod ⟨"java/lang/Throwable", "fillInStackTrace", "()Ljava/lang/Throwable;"⟩).before args s = true := h.w hb 176 rfl rfl
theorem k_172 (h : xC l s0 a0 dC dI cA) (hb : xb s0 s) : (Cond.sameMethod "java/lang/Throwable" "java/lang/Throwable" "fillInStackTrace" "()Ljava/lang/Throwable;").before args s = true := h.w hb 177 rfl rfl
theorem k_173 (h : xC l s0 a0 dC dI cA) (hb : xb s0 s) : (Cond.selects "java/lang/ArithmeticException" ⟨"java/lang/Throwable", "fillInStackTrace", "()Ljava/lang/Throwable;"⟩ ⟨"java/lang/Throwable", "fillInStackTrace", "()Ljava/lang/Throwable;"⟩).before args s = true := h.w hb 178 rfl rfl
theorem k_174 (h : xC l s0 a0 dC dI cA) (hb : xb s0 s) : (Cond.selects "java/lang/ArrayIndexOutOfBoundsException" ⟨"java/lang/Throwable", "fillInStackTrace", "()Ljava/lang/Throwable;"⟩ ⟨"java/lang/Throwable", "fillInStackTrace", "()Ljava/lang/Throwable;"⟩).before args s = true := h.w hb 179 rfl rfl
theorem k_175 (h : xC l s0 a0 dC dI cA) (hb : xb s0 s) : (Cond.selects "java/lang/ArrayStoreException" ⟨"java/lang/Throwable", "fillInStackTrace", "()Ljava/lang/Throwable;"⟩ ⟨"java/lang/Throwable", "fillInStackTrace", "()Ljava/lang/Throwable;"⟩).before args s = true := h.w hb 180 rfl rfl
theorem k_176 (h : xC l s0 a0 dC dI cA) (hb : xb s0 s) : (Cond.selects "java/lang/ClassCastException" ⟨"java/lang/Throwable", "fillInStackTrace", "()Ljava/lang/Throwable;"⟩ ⟨"java/lang/Throwable", "fillInStackTrace", "()Ljava/lang/Throwable;"⟩).before args s = true := h.w hb 181 rfl rfl
theorem k_177 (h : xC l s0 a0 dC dI cA) (hb : xb s0 s) : (Cond.selects "java/lang/NegativeArraySizeException" ⟨"java/lang/Throwable", "fillInStackTrace", "()Ljava/lang/Throwable;"⟩ ⟨"java/lang/Throwable", "fillInStackTrace", "()Ljava/lang/Throwable;"⟩).before args s = true := h.w hb 182 rfl rfl
theorem k_178 (h : xC l s0 a0 dC dI cA) (hb : xb s0 s) : (Cond.selects "java/lang/NullPointerException" ⟨"java/lang/Throwable", "fillInStackTrace", "()Ljava/lang/Throwable;"⟩ ⟨"java/lang/NullPointerException", "fillInStackTrace", "()Ljava/lang/Throwable;"⟩).before args s = true := h.w hb 183 rfl rfl
theorem k_179 (h : xC l s0 a0 dC dI cA) (hb : xb s0 s) : (Cond.instanceMethod ⟨"java/lang/NullPointerException", "fillInStackTrace", "()Ljava/lang/Throwable;"⟩).before args s = true := h.w hb 184 rfl rfl
theorem k_181 (h : xC l s0 a0 dC dI cA) (hb : xb s0 s) : (Cond.methodLink "java/lang/NullPointerException" 16 ⟨"java/lang/NullPointerException", "getExtendedNPEMessage", "()Ljava/lang/String;"⟩).before args s = true := h.w hb 186 rfl rfl
theorem k_183 (h : xC l s0 a0 dC dI cA) (hb : xb s0 s) : (Cond.instanceMethod ⟨"java/lang/NullPointerException", "getExtendedNPEMessage", "()Ljava/lang/String;"⟩).before args s = true := h.w hb 188 rfl rfl
theorem k_185 (h : xC l s0 a0 dC dI cA) (hb : xb s0 s) : (Cond.methodLink "java/lang/NullPointerException" 24 ⟨"java/lang/RuntimeException", "fillInStackTrace", "()Ljava/lang/Throwable;"⟩).before args s = true := h.w hb 190 rfl rfl
theorem k_186 (h : xC l s0 a0 dC dI cA) (hb : xb s0 s) : (Cond.sameMethod "java/lang/RuntimeException" "java/lang/Throwable" "fillInStackTrace" "()Ljava/lang/Throwable;").before args s = true := h.w hb 191 rfl rfl
theorem k_189 (h : xC l s0 a0 dC dI cA) (hb : xb s0 s) : (Cond.methodLink "java/lang/Throwable" 202 ⟨"java/lang/Throwable", "fillInStackTrace", "(I)Ljava/lang/Throwable;"⟩).before args s = true := h.w hb 194 rfl rfl
theorem k_191 (h : xC l s0 a0 dC dI cA) (hb : xb s0 s) : (Cond.instanceMethod ⟨"java/lang/Throwable", "fillInStackTrace", "(I)Ljava/lang/Throwable;"⟩).before args s = true := h.w hb 196 rfl rfl
theorem k_192 (h : xC l s0 a0 dC dI cA) (hb : xb s0 s) : (Cond.instantiable "java/lang/Throwable" 6).before args s = true := h.w hb 197 rfl rfl
theorem k_194 (h : xC l s0 a0 dC dI cA) (hb : xb s0 s) : (Cond.stringRef RX5 138 "nothing is there").before args s = true := h.str hb 199 rfl
theorem k_195 (h : xC l s0 a0 dC dI cA) (hb : xb s0 s) : (Cond.methodLink RX5 140 ⟨"java/lang/NullPointerException", "<init>", "(Ljava/lang/String;)V"⟩).before args s = true := h.w hb 200 rfl rfl
theorem k_196 (h : xC l s0 a0 dC dI cA) (hb : xb s0 s) : (Cond.instanceMethod ⟨"java/lang/NullPointerException", "<init>", "(Ljava/lang/String;)V"⟩).before args s = true := h.w hb 201 rfl rfl
theorem k_197 (h : xC l s0 a0 dC dI cA) (hb : xb s0 s) : (Cond.code ⟨"java/lang/NullPointerException", "<init>", "(Ljava/lang/String;)V"⟩ prog_16_method_2_code 2 none).before args s = true := h.w hb 202 rfl rfl
theorem k_198 (h : xC l s0 a0 dC dI cA) (hb : xb s0 s) : (Cond.methodLink "java/lang/NullPointerException" 7 ⟨"java/lang/RuntimeException", "<init>", "(Ljava/lang/String;)V"⟩).before args s = true := h.w hb 203 rfl rfl
theorem k_199 (h : xC l s0 a0 dC dI cA) (hb : xb s0 s) : (Cond.instanceMethod ⟨"java/lang/RuntimeException", "<init>", "(Ljava/lang/String;)V"⟩).before args s = true := h.w hb 204 rfl rfl
theorem k_200 (h : xC l s0 a0 dC dI cA) (hb : xb s0 s) : (Cond.code ⟨"java/lang/RuntimeException", "<init>", "(Ljava/lang/String;)V"⟩ prog_17_method_2_code 2 none).before args s = true := h.w hb 205 rfl rfl
theorem k_201 (h : xC l s0 a0 dC dI cA) (hb : xb s0 s) : (Cond.methodLink "java/lang/RuntimeException" 7 ⟨"java/lang/Exception", "<init>", "(Ljava/lang/String;)V"⟩).before args s = true := h.w hb 206 rfl rfl
theorem k_202 (h : xC l s0 a0 dC dI cA) (hb : xb s0 s) : (Cond.instanceMethod ⟨"java/lang/Exception", "<init>", "(Ljava/lang/String;)V"⟩).before args s = true := h.w hb 207 rfl rfl
theorem k_203 (h : xC l s0 a0 dC dI cA) (hb : xb s0 s) : (Cond.code ⟨"java/lang/Exception", "<init>", "(Ljava/lang/String;)V"⟩ prog_13_method_2_code 2 none).before args s = true := h.w hb 208 rfl rfl
theorem k_204 (h : xC l s0 a0 dC dI cA) (hb : xb s0 s) : (Cond.methodLink "java/lang/Exception" 7 ⟨"java/lang/Throwable", "<init>", "(Ljava/lang/String;)V"⟩).before args s = true := h.w hb 209 rfl rfl
theorem k_205 (h : xC l s0 a0 dC dI cA) (hb : xb s0 s) : (Cond.instanceMethod ⟨"java/lang/Throwable", "<init>", "(Ljava/lang/String;)V"⟩).before args s = true := h.w hb 210 rfl rfl
theorem k_206 (h : xC l s0 a0 dC dI cA) (hb : xb s0 s) : (Cond.code ⟨"java/lang/Throwable", "<init>", "(Ljava/lang/String;)V"⟩ prog_19_method_2_code 2 none).before args s = true := h.w hb 211 rfl rfl
theorem k_207 (h : xC l s0 a0 dC dI cA) (hb : xb s0 s) : (Cond.fieldLink "java/lang/NullPointerException" 10 "java/lang/NullPointerException" "extendedMessageState" "I").before args s = true := h.w hb 212 rfl rfl
theorem k_208 (h : xC l s0 a0 dC dI cA) (hb : xb s0 s) : (Cond.fieldLink "java/lang/NullPointerException" 20 "java/lang/NullPointerException" "extendedMessage" "Ljava/lang/String;").before args s = true := h.w hb 213 rfl rfl
theorem k_209 (h : xC l s0 a0 dC dI cA) (hb : xb s0 s) : (Cond.fieldLink "java/lang/Throwable" 198 "java/lang/Throwable" "backtrace" "Ljava/lang/Object;").before args s = true := h.w hb 214 rfl rfl
theorem k_210 (h : xC l s0 a0 dC dI cA) (hb : xb s0 s) : (Cond.fieldLink "java/lang/Throwable" 31 "java/lang/Throwable" "detailMessage" "Ljava/lang/String;").before args s = true := h.w hb 215 rfl rfl
theorem k_211 (h : xC l s0 a0 dC dI cA) (hb : xb s0 s) : (Cond.fieldLink "java/lang/Throwable" 7 "java/lang/Throwable" "cause" "Ljava/lang/Throwable;").before args s = true := h.w hb 216 rfl rfl
theorem k_212 (h : xC l s0 a0 dC dI cA) (hb : xb s0 s) : (Cond.fieldLink "java/lang/Throwable" 17 "java/lang/Throwable" "stackTrace" "[Ljava/lang/StackTraceElement;").before args s = true := h.w hb 217 rfl rfl
theorem k_213 (h : xC l s0 a0 dC dI cA) (hb : xb s0 s) : (Cond.fieldLink "java/lang/Throwable" 24 "java/lang/Throwable" "suppressedExceptions" "Ljava/util/List;").before args s = true := h.w hb 218 rfl rfl
theorem k_226 (h : xC l s0 a0 dC dI cA) (hb : xb s0 s) : (Cond.methodLink RX5 45 yX4_cellCount).before args s = true := h.w hb 231 rfl rfl
theorem k_227 (h : xC l s0 a0 dC dI cA) (hb : xb s0 s) : (Cond.instanceMethod yX4_cellCount).before args s = true := h.w hb 232 rfl rfl
theorem k_228 (h : xC l s0 a0 dC dI cA) (hb : xb s0 s) : (Cond.selects RX4 yX4_cellCount yX4_cellCount).before args s = true := h.w hb 233 rfl rfl
theorem k_229 (h : xC l s0 a0 dC dI cA) (hb : xb s0 s) : (Cond.code yX4_cellCount cX4_cellCount 2 (some .int)).before args s = true := h.w hb 234 rfl rfl
theorem k_230 (h : xC l s0 a0 dC dI cA) (hb : xb s0 s) : (Cond.methodLink RX5 48 yX5_needPlace).before args s = true := h.w hb 235 rfl rfl
theorem k_231 (h : xC l s0 a0 dC dI cA) (hb : xb s0 s) : (Cond.static yX5_needPlace).before args s = true := h.w hb 236 rfl rfl
theorem k_232 (h : xC l s0 a0 dC dI cA) (hb : xb s0 s) : (Cond.code yX5_needPlace cX5_needPlace 2 none).before args s = true := h.w hb 237 rfl rfl
theorem k_233 (h : xC l s0 a0 dC dI cA) (hb : xb s0 s) : (Cond.classLink RX5 141 "java/lang/ArrayIndexOutOfBoundsException").before args s = true := h.w hb 238 rfl rfl
theorem k_234 (h : xC l s0 a0 dC dI cA) (hb : xb s0 s) : (Cond.instantiable "java/lang/ArrayIndexOutOfBoundsException" 6).before args s = true := h.w hb 239 rfl rfl
theorem k_235 (h : xC l s0 a0 dC dI cA) (hb : xb s0 s) : (Cond.castable "java/lang/ArrayIndexOutOfBoundsException" "java/lang/ArrayIndexOutOfBoundsException").before args s = true := h.w hb 240 rfl rfl
theorem k_238 (h : xC l s0 a0 dC dI cA) (hb : xb s0 s) : (Cond.selects "java/lang/ArrayIndexOutOfBoundsException" ⟨"java/lang/Throwable", "fillInStackTrace", "(I)Ljava/lang/Throwable;"⟩ ⟨"java/lang/Throwable", "fillInStackTrace", "(I)Ljava/lang/Throwable;"⟩).before args s = true := h.w hb 243 rfl rfl
theorem k_244 (h : xC l s0 a0 dC dI cA) (hb : xb s0 s) : (Cond.stringRef RX5 143 "no such place").before args s = true := h.str hb 249 rfl
theorem k_245 (h : xC l s0 a0 dC dI cA) (hb : xb s0 s) : (Cond.methodLink RX5 145 ⟨"java/lang/ArrayIndexOutOfBoundsException", "<init>", "(Ljava/lang/String;)V"⟩).before args s = true := h.w hb 250 rfl rfl
theorem k_246 (h : xC l s0 a0 dC dI cA) (hb : xb s0 s) : (Cond.instanceMethod ⟨"java/lang/ArrayIndexOutOfBoundsException", "<init>", "(Ljava/lang/String;)V"⟩).before args s = true := h.w hb 251 rfl rfl
theorem k_247 (h : xC l s0 a0 dC dI cA) (hb : xb s0 s) : (Cond.code ⟨"java/lang/ArrayIndexOutOfBoundsException", "<init>", "(Ljava/lang/String;)V"⟩ prog_10_method_2_code 2 none).before args s = true := h.w hb 252 rfl rfl
theorem k_248 (h : xC l s0 a0 dC dI cA) (hb : xb s0 s) : (Cond.methodLink "java/lang/ArrayIndexOutOfBoundsException" 7 ⟨"java/lang/IndexOutOfBoundsException", "<init>", "(Ljava/lang/String;)V"⟩).before args s = true := h.w hb 253 rfl rfl
theorem k_249 (h : xC l s0 a0 dC dI cA) (hb : xb s0 s) : (Cond.instanceMethod ⟨"java/lang/IndexOutOfBoundsException", "<init>", "(Ljava/lang/String;)V"⟩).before args s = true := h.w hb 254 rfl rfl
theorem k_250 (h : xC l s0 a0 dC dI cA) (hb : xb s0 s) : (Cond.code ⟨"java/lang/IndexOutOfBoundsException", "<init>", "(Ljava/lang/String;)V"⟩ prog_14_method_2_code 2 none).before args s = true := h.w hb 255 rfl rfl
theorem k_251 (h : xC l s0 a0 dC dI cA) (hb : xb s0 s) : (Cond.methodLink "java/lang/IndexOutOfBoundsException" 7 ⟨"java/lang/RuntimeException", "<init>", "(Ljava/lang/String;)V"⟩).before args s = true := h.w hb 256 rfl rfl
theorem k_254 (h : xC l s0 a0 dC dI cA) (hb : xb s0 s) : (Cond.methodLink RX5 52 yX4_numberAt).before args s = true := h.w hb 259 rfl rfl
theorem k_255 (h : xC l s0 a0 dC dI cA) (hb : xb s0 s) : (Cond.instanceMethod yX4_numberAt).before args s = true := h.w hb 260 rfl rfl
theorem k_256 (h : xC l s0 a0 dC dI cA) (hb : xb s0 s) : (Cond.selects RX4 yX4_numberAt yX4_numberAt).before args s = true := h.w hb 261 rfl rfl
theorem k_257 (h : xC l s0 a0 dC dI cA) (hb : xb s0 s) : (Cond.code yX4_numberAt cX4_numberAt 3 (some .long)).before args s = true := h.w hb 262 rfl rfl
theorem k_258 (h : xC l s0 a0 dC dI cA) (hb : xb s0 s) : (Cond.methodLink RL 89 yL_write).before args s = true := h.w hb 263 rfl rfl
theorem k_259 (h : xC l s0 a0 dC dI cA) (hb : xb s0 s) : (Cond.static yL_write).before args s = true := h.w hb 264 rfl rfl
theorem k_260 (h : xC l s0 a0 dC dI cA) (hb : xb s0 s) : (Cond.codeWith yL_write cL_write 7 (some .int) [(0, 14, 17, 13), (0, 14, 21, 15)]).before args s = true := h.w hb 265 rfl rfl
theorem k_261 (h : xC l s0 a0 dC dI cA) (hb : xb s0 s) : (Cond.methodLink RL 17 yX5_write).before args s = true := h.w hb 266 rfl rfl
theorem k_262 (h : xC l s0 a0 dC dI cA) (hb : xb s0 s) : (Cond.instanceMethod yX5_write).before args s = true := h.w hb 267 rfl rfl
theorem k_263 (h : xC l s0 a0 dC dI cA) (hb : xb s0 s) : (Cond.selects RX5 yX5_write yX5_write).before args s = true := h.w hb 268 rfl rfl
theorem k_264 (h : xC l s0 a0 dC dI cA) (hb : xb s0 s) : (Cond.code yX5_write cX5_write 6 (some .int)).before args s = true := h.w hb 269 rfl rfl
theorem k_265 (h : xC l s0 a0 dC dI cA) (hb : xb s0 s) : (Cond.methodLink RX5 56 yX4_store).before args s = true := h.w hb 270 rfl rfl
theorem k_266 (h : xC l s0 a0 dC dI cA) (hb : xb s0 s) : (Cond.instanceMethod yX4_store).before args s = true := h.w hb 271 rfl rfl
theorem k_267 (h : xC l s0 a0 dC dI cA) (hb : xb s0 s) : (Cond.selects RX4 yX4_store yX4_store).before args s = true := h.w hb 272 rfl rfl
theorem k_268 (h : xC l s0 a0 dC dI cA) (hb : xb s0 s) : (Cond.code yX4_store cX4_store 4 none).before args s = true := h.w hb 273 rfl rfl
theorem k_269 (h : xC l s0 a0 dC dI cA) (hb : xb s0 s) : (Cond.methodLink RL 93 yL_length).before args s = true := h.w hb 274 rfl rfl
theorem k_270 (h : xC l s0 a0 dC dI cA) (hb : xb s0 s) : (Cond.static yL_length).before args s = true := h.w hb 275 rfl rfl
theorem k_271 (h : xC l s0 a0 dC dI cA) (hb : xb s0 s) : (Cond.codeWith yL_length cL_length 5 (some .int) [(0, 10, 13, 13)]).before args s = true := h.w hb 276 rfl rfl
theorem k_272 (h : xC l s0 a0 dC dI cA) (hb : xb s0 s) : (Cond.methodLink RL 21 yX5_length).before args s = true := h.w hb 277 rfl rfl
theorem k_273 (h : xC l s0 a0 dC dI cA) (hb : xb s0 s) : (Cond.instanceMethod yX5_length).before args s = true := h.w hb 278 rfl rfl
theorem k_274 (h : xC l s0 a0 dC dI cA) (hb : xb s0 s) : (Cond.selects RX5 yX5_length yX5_length).before args s = true := h.w hb 279 rfl rfl
theorem k_275 (h : xC l s0 a0 dC dI cA) (hb : xb s0 s) : (Cond.code yX5_length cX5_length 3 (some .int)).before args s = true := h.w hb 280 rfl rfl
theorem k_276 (h : xC l s0 a0 dC dI cA) (hb : xb s0 s) : (Cond.methodLink RL 97 yL_make).before args s = true := h.w hb 281 rfl rfl
theorem k_277 (h : xC l s0 a0 dC dI cA) (hb : xb s0 s) : (Cond.static yL_make).before args s = true := h.w hb 282 rfl rfl
theorem k_278 (h : xC l s0 a0 dC dI cA) (hb : xb s0 s) : (Cond.codeWith yL_make cL_make 5 (some .int) [(0, 10, 13, 29)]).before args s = true := h.w hb 283 rfl rfl
theorem k_279 (h : xC l s0 a0 dC dI cA) (hb : xb s0 s) : (Cond.classLink RL 29 "java/lang/NegativeArraySizeException").before args s = true := h.w hb 284 rfl rfl
theorem k_280 (h : xC l s0 a0 dC dI cA) (hb : xb s0 s) : (Cond.methodLink RL 25 yX5_make).before args s = true := h.w hb 285 rfl rfl
theorem k_281 (h : xC l s0 a0 dC dI cA) (hb : xb s0 s) : (Cond.instanceMethod yX5_make).before args s = true := h.w hb 286 rfl rfl
theorem k_282 (h : xC l s0 a0 dC dI cA) (hb : xb s0 s) : (Cond.selects RX5 yX5_make yX5_make).before args s = true := h.w hb 287 rfl rfl
theorem k_283 (h : xC l s0 a0 dC dI cA) (hb : xb s0 s) : (Cond.code yX5_make cX5_make 4 (some .int)).before args s = true := h.w hb 288 rfl rfl
theorem k_284 (h : xC l s0 a0 dC dI cA) (hb : xb s0 s) : (Cond.methodLink RX5 60 yX5_needSize).before args s = true := h.w hb 289 rfl rfl
theorem k_285 (h : xC l s0 a0 dC dI cA) (hb : xb s0 s) : (Cond.static yX5_needSize).before args s = true := h.w hb 290 rfl rfl
theorem k_286 (h : xC l s0 a0 dC dI cA) (hb : xb s0 s) : (Cond.code yX5_needSize cX5_needSize 1 none).before args s = true := h.w hb 291 rfl rfl
theorem k_287 (h : xC l s0 a0 dC dI cA) (hb : xb s0 s) : (Cond.classLink RX5 146 "java/lang/NegativeArraySizeException").before args s = true := h.w hb 292 rfl rfl
theorem k_288 (h : xC l s0 a0 dC dI cA) (hb : xb s0 s) : (Cond.instantiable "java/lang/NegativeArraySizeException" 6).before args s = true := h.w hb 293 rfl rfl
theorem k_289 (h : xC l s0 a0 dC dI cA) (hb : xb s0 s) : (Cond.castable "java/lang/NegativeArraySizeException" "java/lang/NegativeArraySizeException").before args s = true := h.w hb 294 rfl rfl
theorem k_290 (h : xC l s0 a0 dC dI cA) (hb : xb s0 s) : (Cond.selects "java/lang/NegativeArraySizeException" ⟨"java/lang/Throwable", "fillInStackTrace", "(I)Ljava/lang/Throwable;"⟩ ⟨"java/lang/Throwable", "fillInStackTrace", "(I)Ljava/lang/Throwable;"⟩).before args s = true := h.w hb 295 rfl rfl
theorem k_296 (h : xC l s0 a0 dC dI cA) (hb : xb s0 s) : (Cond.stringRef RX5 148 "a size below 0").before args s = true := h.str hb 301 rfl
theorem k_297 (h : xC l s0 a0 dC dI cA) (hb : xb s0 s) : (Cond.methodLink RX5 150 ⟨"java/lang/NegativeArraySizeException", "<init>", "(Ljava/lang/String;)V"⟩).before args s = true := h.w hb 302 rfl rfl
theorem k_298 (h : xC l s0 a0 dC dI cA) (hb : xb s0 s) : (Cond.instanceMethod ⟨"java/lang/NegativeArraySizeException", "<init>", "(Ljava/lang/String;)V"⟩).before args s = true := h.w hb 303 rfl rfl
theorem k_299 (h : xC l s0 a0 dC dI cA) (hb : xb s0 s) : (Cond.code ⟨"java/lang/NegativeArraySizeException", "<init>", "(Ljava/lang/String;)V"⟩ prog_15_method_2_code 2 none).before args s = true := h.w hb 304 rfl rfl
theorem k_300 (h : xC l s0 a0 dC dI cA) (hb : xb s0 s) : (Cond.methodLink "java/lang/NegativeArraySizeException" 7 ⟨"java/lang/RuntimeException", "<init>", "(Ljava/lang/String;)V"⟩).before args s = true := h.w hb 305 rfl rfl
theorem k_303 (h : xC l s0 a0 dC dI cA) (hb : xb s0 s) : (Cond.methodLink RX5 64 yX4_renew).before args s = true := h.w hb 308 rfl rfl
theorem k_304 (h : xC l s0 a0 dC dI cA) (hb : xb s0 s) : (Cond.instanceMethod yX4_renew).before args s = true := h.w hb 309 rfl rfl
theorem k_305 (h : xC l s0 a0 dC dI cA) (hb : xb s0 s) : (Cond.selects RX4 yX4_renew yX4_renew).before args s = true := h.w hb 310 rfl rfl
theorem k_306 (h : xC l s0 a0 dC dI cA) (hb : xb s0 s) : (Cond.code yX4_renew cX4_renew 4 none).before args s = true := h.w hb 311 rfl rfl
theorem k_307 (h : xC l s0 a0 dC dI cA) (hb : xb s0 s) : (Cond.methodLink RX4 46 yX4_store).before args s = true := h.w hb 312 rfl rfl
theorem k_308 (h : xC l s0 a0 dC dI cA) (hb : xb s0 s) : (Cond.methodLink RL 101 yL_grid).before args s = true := h.w hb 313 rfl rfl
theorem k_309 (h : xC l s0 a0 dC dI cA) (hb : xb s0 s) : (Cond.static yL_grid).before args s = true := h.w hb 314 rfl rfl
theorem k_310 (h : xC l s0 a0 dC dI cA) (hb : xb s0 s) : (Cond.codeWith yL_grid cL_grid 5 (some .int) [(0, 10, 13, 29)]).before args s = true := h.w hb 315 rfl rfl
theorem k_311 (h : xC l s0 a0 dC dI cA) (hb : xb s0 s) : (Cond.methodLink RL 31 yX5_grid).before args s = true := h.w hb 316 rfl rfl
theorem k_312 (h : xC l s0 a0 dC dI cA) (hb : xb s0 s) : (Cond.instanceMethod yX5_grid).before args s = true := h.w hb 317 rfl rfl
theorem k_313 (h : xC l s0 a0 dC dI cA) (hb : xb s0 s) : (Cond.selects RX5 yX5_grid yX5_grid).before args s = true := h.w hb 318 rfl rfl
theorem k_314 (h : xC l s0 a0 dC dI cA) (hb : xb s0 s) : (Cond.code yX5_grid cX5_grid 5 (some .int)).before args s = true := h.w hb 319 rfl rfl
theorem k_315 (h : xC l s0 a0 dC dI cA) (hb : xb s0 s) : (Cond.methodLink RX5 67 yX3_renew).before args s = true := h.w hb 320 rfl rfl
theorem k_316 (h : xC l s0 a0 dC dI cA) (hb : xb s0 s) : (Cond.instanceMethod yX3_renew).before args s = true := h.w hb 321 rfl rfl
theorem k_317 (h : xC l s0 a0 dC dI cA) (hb : xb s0 s) : (Cond.selects RX3 yX3_renew yX3_renew).before args s = true := h.w hb 322 rfl rfl
theorem k_318 (h : xC l s0 a0 dC dI cA) (hb : xb s0 s) : (Cond.code yX3_renew cX3_renew 3 none).before args s = true := h.w hb 323 rfl rfl
theorem k_319 (h : xC l s0 a0 dC dI cA) (hb : xb s0 s) : (Cond.methodLink RL 104 yL_cell).before args s = true := h.w hb 324 rfl rfl
theorem k_320 (h : xC l s0 a0 dC dI cA) (hb : xb s0 s) : (Cond.static yL_cell).before args s = true := h.w hb 325 rfl rfl
theorem k_321 (h : xC l s0 a0 dC dI cA) (hb : xb s0 s) : (Cond.codeWith yL_cell cL_cell 5 (some .int) [(0, 10, 13, 13), (0, 10, 17, 15)]).before args s = true := h.w hb 326 rfl rfl
theorem k_322 (h : xC l s0 a0 dC dI cA) (hb : xb s0 s) : (Cond.methodLink RL 34 yX5_cell).before args s = true := h.w hb 327 rfl rfl
theorem k_323 (h : xC l s0 a0 dC dI cA) (hb : xb s0 s) : (Cond.instanceMethod yX5_cell).before args s = true := h.w hb 328 rfl rfl
theorem k_324 (h : xC l s0 a0 dC dI cA) (hb : xb s0 s) : (Cond.selects RX5 yX5_cell yX5_cell).before args s = true := h.w hb 329 rfl rfl
theorem k_325 (h : xC l s0 a0 dC dI cA) (hb : xb s0 s) : (Cond.code yX5_cell cX5_cell 3 (some .int)).before args s = true := h.w hb 330 rfl rfl
theorem k_326 (h : xC l s0 a0 dC dI cA) (hb : xb s0 s) : (Cond.methodLink RX5 68 yX3_isMade).before args s = true := h.w hb 331 rfl rfl
theorem k_327 (h : xC l s0 a0 dC dI cA) (hb : xb s0 s) : (Cond.instanceMethod yX3_isMade).before args s = true := h.w hb 332 rfl rfl
theorem k_328 (h : xC l s0 a0 dC dI cA) (hb : xb s0 s) : (Cond.selects RX3 yX3_isMade yX3_isMade).before args s = true := h.w hb 333 rfl rfl
theorem k_329 (h : xC l s0 a0 dC dI cA) (hb : xb s0 s) : (Cond.code yX3_isMade cX3_isMade 1 (some .boolean)).before args s = true := h.w hb 334 rfl rfl
theorem k_330 (h : xC l s0 a0 dC dI cA) (hb : xb s0 s) : (Cond.methodLink RX5 72 yX3_rowCount).before args s = true := h.w hb 335 rfl rfl
theorem k_331 (h : xC l s0 a0 dC dI cA) (hb : xb s0 s) : (Cond.instanceMethod yX3_rowCount).before args s = true := h.w hb 336 rfl rfl
theorem k_332 (h : xC l s0 a0 dC dI cA) (hb : xb s0 s) : (Cond.selects RX3 yX3_rowCount yX3_rowCount).before args s = true := h.w hb 337 rfl rfl
theorem k_333 (h : xC l s0 a0 dC dI cA) (hb : xb s0 s) : (Cond.code yX3_rowCount cX3_rowCount 1 (some .int)).before args s = true := h.w hb 338 rfl rfl
theorem k_334 (h : xC l s0 a0 dC dI cA) (hb : xb s0 s) : (Cond.methodLink RX5 76 yX3_columnCount).before args s = true := h.w hb 339 rfl rfl
theorem k_335 (h : xC l s0 a0 dC dI cA) (hb : xb s0 s) : (Cond.instanceMethod yX3_columnCount).before args s = true := h.w hb 340 rfl rfl
theorem k_336 (h : xC l s0 a0 dC dI cA) (hb : xb s0 s) : (Cond.selects RX3 yX3_columnCount yX3_columnCount).before args s = true := h.w hb 341 rfl rfl
theorem k_337 (h : xC l s0 a0 dC dI cA) (hb : xb s0 s) : (Cond.code yX3_columnCount cX3_columnCount 1 (some .int)).before args s = true := h.w hb 342 rfl rfl
theorem k_338 (h : xC l s0 a0 dC dI cA) (hb : xb s0 s) : (Cond.methodLink RX5 79 yX3_numberAt).before args s = true := h.w hb 343 rfl rfl
theorem k_339 (h : xC l s0 a0 dC dI cA) (hb : xb s0 s) : (Cond.instanceMethod yX3_numberAt).before args s = true := h.w hb 344 rfl rfl
theorem k_340 (h : xC l s0 a0 dC dI cA) (hb : xb s0 s) : (Cond.selects RX3 yX3_numberAt yX3_numberAt).before args s = true := h.w hb 345 rfl rfl
theorem k_341 (h : xC l s0 a0 dC dI cA) (hb : xb s0 s) : (Cond.code yX3_numberAt cX3_numberAt 3 (some .int)).before args s = true := h.w hb 346 rfl rfl
theorem k_342 (h : xC l s0 a0 dC dI cA) (hb : xb s0 s) : (Cond.methodLink RL 107 yL_boxes).before args s = true := h.w hb 347 rfl rfl
theorem k_343 (h : xC l s0 a0 dC dI cA) (hb : xb s0 s) : (Cond.static yL_boxes).before args s = true := h.w hb 348 rfl rfl
theorem k_344 (h : xC l s0 a0 dC dI cA) (hb : xb s0 s) : (Cond.codeWith yL_boxes cL_boxes 5 (some .int) [(0, 10, 13, 29)]).before args s = true := h.w hb 349 rfl rfl
theorem k_345 (h : xC l s0 a0 dC dI cA) (hb : xb s0 s) : (Cond.methodLink RL 37 yX5_boxes).before args s = true := h.w hb 350 rfl rfl
theorem k_346 (h : xC l s0 a0 dC dI cA) (hb : xb s0 s) : (Cond.instanceMethod yX5_boxes).before args s = true := h.w hb 351 rfl rfl
theorem k_347 (h : xC l s0 a0 dC dI cA) (hb : xb s0 s) : (Cond.selects RX5 yX5_boxes yX5_boxes).before args s = true := h.w hb 352 rfl rfl
theorem k_348 (h : xC l s0 a0 dC dI cA) (hb : xb s0 s) : (Cond.code yX5_boxes cX5_boxes 4 (some .int)).before args s = true := h.w hb 353 rfl rfl
theorem k_349 (h : xC l s0 a0 dC dI cA) (hb : xb s0 s) : (Cond.methodLink RX5 82 yX1_renew).before args s = true := h.w hb 354 rfl rfl
theorem k_350 (h : xC l s0 a0 dC dI cA) (hb : xb s0 s) : (Cond.instanceMethod yX1_renew).before args s = true := h.w hb 355 rfl rfl
theorem k_351 (h : xC l s0 a0 dC dI cA) (hb : xb s0 s) : (Cond.selects RX1 yX1_renew yX1_renew).before args s = true := h.w hb 356 rfl rfl
theorem k_352 (h : xC l s0 a0 dC dI cA) (hb : xb s0 s) : (Cond.code yX1_renew cX1_renew 4 none).before args s = true := h.w hb 357 rfl rfl
theorem k_353 (h : xC l s0 a0 dC dI cA) (hb : xb s0 s) : (Cond.methodLink RL 110 yL_put).before args s = true := h.w hb 358 rfl rfl
theorem k_354 (h : xC l s0 a0 dC dI cA) (hb : xb s0 s) : (Cond.static yL_put).before args s = true := h.w hb 359 rfl rfl
theorem k_355 (h : xC l s0 a0 dC dI cA) (hb : xb s0 s) : (Cond.codeWith yL_put cL_put 7 (some .int) [(0, 14, 17, 13), (0, 14, 21, 15), (0, 14, 25, 44)]).before args s = true := h.w hb 360 rfl rfl
theorem k_356 (h : xC l s0 a0 dC dI cA) (hb : xb s0 s) : (Cond.classLink RL 44 "java/lang/ArrayStoreException").before args s = true := h.w hb 361 rfl rfl
theorem k_357 (h : xC l s0 a0 dC dI cA) (hb : xb s0 s) : (Cond.methodLink RL 40 yX5_put).before args s = true := h.w hb 362 rfl rfl
theorem k_358 (h : xC l s0 a0 dC dI cA) (hb : xb s0 s) : (Cond.instanceMethod yX5_put).before args s = true := h.w hb 363 rfl rfl
theorem k_359 (h : xC l s0 a0 dC dI cA) (hb : xb s0 s) : (Cond.selects RX5 yX5_put yX5_put).before args s = true := h.w hb 364 rfl rfl
theorem k_360 (h : xC l s0 a0 dC dI cA) (hb : xb s0 s) : (Cond.code yX5_put cX5_put 6 (some .int)).before args s = true := h.w hb 365 rfl rfl
theorem k_361 (h : xC l s0 a0 dC dI cA) (hb : xb s0 s) : (Cond.methodLink RX5 85 yX1_isMade).before args s = true := h.w hb 366 rfl rfl
theorem k_362 (h : xC l s0 a0 dC dI cA) (hb : xb s0 s) : (Cond.instanceMethod yX1_isMade).before args s = true := h.w hb 367 rfl rfl
theorem k_363 (h : xC l s0 a0 dC dI cA) (hb : xb s0 s) : (Cond.selects RX1 yX1_isMade yX1_isMade).before args s = true := h.w hb 368 rfl rfl
theorem k_364 (h : xC l s0 a0 dC dI cA) (hb : xb s0 s) : (Cond.code yX1_isMade cX1_isMade 1 (some .boolean)).before args s = true := h.w hb 369 rfl rfl
theorem k_365 (h : xC l s0 a0 dC dI cA) (hb : xb s0 s) : (Cond.methodLink RX5 86 yX1_placeCount).before args s = true := h.w hb 370 rfl rfl
theorem k_366 (h : xC l s0 a0 dC dI cA) (hb : xb s0 s) : (Cond.instanceMethod yX1_placeCount).before args s = true := h.w hb 371 rfl rfl
theorem k_367 (h : xC l s0 a0 dC dI cA) (hb : xb s0 s) : (Cond.selects RX1 yX1_placeCount yX1_placeCount).before args s = true := h.w hb 372 rfl rfl
theorem k_368 (h : xC l s0 a0 dC dI cA) (hb : xb s0 s) : (Cond.code yX1_placeCount cX1_placeCount 1 (some .int)).before args s = true := h.w hb 373 rfl rfl
theorem k_369 (h : xC l s0 a0 dC dI cA) (hb : xb s0 s) : (Cond.methodLink RX5 89 yX5_newBox).before args s = true := h.w hb 374 rfl rfl
theorem k_370 (h : xC l s0 a0 dC dI cA) (hb : xb s0 s) : (Cond.static yX5_newBox).before args s = true := h.w hb 375 rfl rfl
theorem k_371 (h : xC l s0 a0 dC dI cA) (hb : xb s0 s) : (Cond.code yX5_newBox cX5_newBox 2 (some (.object "FaultBench$Box"))).before args s = true := h.w hb 376 rfl rfl
theorem k_372 (h : xC l s0 a0 dC dI cA) (hb : xb s0 s) : (Cond.classLink RX5 112 RX0).before args s = true := h.w hb 377 rfl rfl
theorem k_373 (h : xC l s0 a0 dC dI cA) (hb : xb s0 s) : (Cond.instantiable RX0 1).before args s = true := h.w hb 378 rfl rfl
theorem k_374 (h : xC l s0 a0 dC dI cA) (hb : xb s0 s) : (Cond.methodLink RX5 153 yX0_init).before args s = true := h.w hb 379 rfl rfl
theorem k_375 (h : xC l s0 a0 dC dI cA) (hb : xb s0 s) : (Cond.instanceMethod yX0_init).before args s = true := h.w hb 380 rfl rfl
theorem k_376 (h : xC l s0 a0 dC dI cA) (hb : xb s0 s) : (Cond.code yX0_init cX0_init 2 none).before args s = true := h.w hb 381 rfl rfl
theorem k_377 (h : xC l s0 a0 dC dI cA) (hb : xb s0 s) : (Cond.methodLink RX0 1 ⟨"java/lang/Object", "<init>", "()V"⟩).before args s = true := h.w hb 382 rfl rfl
theorem k_378 (h : xC l s0 a0 dC dI cA) (hb : xb s0 s) : (Cond.fieldLink RX0 7 "FaultBench$Box" "value" "I").before args s = true := h.w hb 383 rfl rfl
theorem k_379 (h : xC l s0 a0 dC dI cA) (hb : xb s0 s) : (Cond.fieldLink RX2 7 "FaultBench$Disc" "value" "I").before args s = true := h.w hb 384 rfl rfl
theorem k_380 (h : xC l s0 a0 dC dI cA) (hb : xb s0 s) : (Cond.sameField "FaultBench$Disc" "FaultBench$Box" "value" "I").before args s = true := h.w hb 385 rfl rfl
theorem k_381 (h : xC l s0 a0 dC dI cA) (hb : xb s0 s) : (Cond.fieldLink RX5 111 "FaultBench$Box" "value" "I").before args s = true := h.w hb 386 rfl rfl
theorem k_385 (h : xC l s0 a0 dC dI cA) (hb : xb s0 s) : (Cond.classLink RX5 119 RX2).before args s = true := h.w hb 390 rfl rfl
theorem k_386 (h : xC l s0 a0 dC dI cA) (hb : xb s0 s) : (Cond.instantiable RX2 1).before args s = true := h.w hb 391 rfl rfl
theorem k_387 (h : xC l s0 a0 dC dI cA) (hb : xb s0 s) : (Cond.methodLink RX5 155 yX2_init).before args s = true := h.w hb 392 rfl rfl
theorem k_388 (h : xC l s0 a0 dC dI cA) (hb : xb s0 s) : (Cond.instanceMethod yX2_init).before args s = true := h.w hb 393 rfl rfl
theorem k_389 (h : xC l s0 a0 dC dI cA) (hb : xb s0 s) : (Cond.code yX2_init cX2_init 2 none).before args s = true := h.w hb 394 rfl rfl
theorem k_390 (h : xC l s0 a0 dC dI cA) (hb : xb s0 s) : (Cond.methodLink RX2 1 yX0_init).before args s = true := h.w hb 395 rfl rfl
theorem k_393 (h : xC l s0 a0 dC dI cA) (hb : xb s0 s) : (Cond.methodLink RX5 93 yX1_takes).before args s = true := h.w hb 398 rfl rfl
theorem k_394 (h : xC l s0 a0 dC dI cA) (hb : xb s0 s) : (Cond.instanceMethod yX1_takes).before args s = true := h.w hb 399 rfl rfl
theorem k_395 (h : xC l s0 a0 dC dI cA) (hb : xb s0 s) : (Cond.selects RX1 yX1_takes yX1_takes).before args s = true := h.w hb 400 rfl rfl
theorem k_396 (h : xC l s0 a0 dC dI cA) (hb : xb s0 s) : (Cond.code yX1_takes cX1_takes 2 (some .boolean)).before args s = true := h.w hb 401 rfl rfl
theorem k_397 (h : xC l s0 a0 dC dI cA) (hb : xb s0 s) : (Cond.classLink RX1 28 RX2).before args s = true := h.w hb 402 rfl rfl
theorem k_398 (h : xC l s0 a0 dC dI cA) (hb : xb s0 s) : (Cond.classLink RX5 97 "java/lang/ArrayStoreException").before args s = true := h.w hb 403 rfl rfl
theorem k_399 (h : xC l s0 a0 dC dI cA) (hb : xb s0 s) : (Cond.instantiable "java/lang/ArrayStoreException" 6).before args s = true := h.w hb 404 rfl rfl
theorem k_400 (h : xC l s0 a0 dC dI cA) (hb : xb s0 s) : (Cond.castable "java/lang/ArrayStoreException" "java/lang/ArrayStoreException").before args s = true := h.w hb 405 rfl rfl
set_option maxRecDepth 20000 in
theorem k_401 (h : xC l s0 a0 dC dI cA) (hb : xb s0 s) : (Cond.selects "java/lang/ArrayStoreException" ⟨"java/lang/Throwable", "fillInStackTrace", "(I)Ljava/lang/Throwable;"⟩ ⟨"java/lang/Throwable", "fillInStackTrace", "(I)Ljava/lang/Throwable;"⟩).before args s = true := h.w hb 406 rfl rfl
set_option maxRecDepth 20000 in
theorem k_407 (h : xC l s0 a0 dC dI cA) (hb : xb s0 s) : (Cond.stringRef RX5 99 "a box that is no disc").before args s = true := h.str hb 412 rfl
set_option maxRecDepth 20000 in
theorem k_408 (h : xC l s0 a0 dC dI cA) (hb : xb s0 s) : (Cond.methodLink RX5 101 ⟨"java/lang/ArrayStoreException", "<init>", "(Ljava/lang/String;)V"⟩).before args s = true := h.w hb 413 rfl rfl
set_option maxRecDepth 20000 in
theorem k_409 (h : xC l s0 a0 dC dI cA) (hb : xb s0 s) : (Cond.instanceMethod ⟨"java/lang/ArrayStoreException", "<init>", "(Ljava/lang/String;)V"⟩).before args s = true := h.w hb 414 rfl rfl
set_option maxRecDepth 20000 in
theorem k_410 (h : xC l s0 a0 dC dI cA) (hb : xb s0 s) : (Cond.code ⟨"java/lang/ArrayStoreException", "<init>", "(Ljava/lang/String;)V"⟩ prog_11_method_2_code 2 none).before args s = true := h.w hb 415 rfl rfl
set_option maxRecDepth 20000 in
theorem k_411 (h : xC l s0 a0 dC dI cA) (hb : xb s0 s) : (Cond.methodLink "java/lang/ArrayStoreException" 7 ⟨"java/lang/RuntimeException", "<init>", "(Ljava/lang/String;)V"⟩).before args s = true := h.w hb 416 rfl rfl
set_option maxRecDepth 20000 in
theorem k_414 (h : xC l s0 a0 dC dI cA) (hb : xb s0 s) : (Cond.methodLink RX5 104 yX1_store).before args s = true := h.w hb 419 rfl rfl
set_option maxRecDepth 20000 in
theorem k_415 (h : xC l s0 a0 dC dI cA) (hb : xb s0 s) : (Cond.instanceMethod yX1_store).before args s = true := h.w hb 420 rfl rfl
set_option maxRecDepth 20000 in
theorem k_416 (h : xC l s0 a0 dC dI cA) (hb : xb s0 s) : (Cond.selects RX1 yX1_store yX1_store).before args s = true := h.w hb 421 rfl rfl
set_option maxRecDepth 20000 in
theorem k_417 (h : xC l s0 a0 dC dI cA) (hb : xb s0 s) : (Cond.code yX1_store cX1_store 3 none).before args s = true := h.w hb 422 rfl rfl
set_option maxRecDepth 20000 in
theorem k_418 (h : xC l s0 a0 dC dI cA) (hb : xb s0 s) : (Cond.methodLink RL 114 yL_value).before args s = true := h.w hb 423 rfl rfl
set_option maxRecDepth 20000 in
theorem k_419 (h : xC l s0 a0 dC dI cA) (hb : xb s0 s) : (Cond.static yL_value).before args s = true := h.w hb 424 rfl rfl
set_option maxRecDepth 20000 in
theorem k_420 (h : xC l s0 a0 dC dI cA) (hb : xb s0 s) : (Cond.codeWith yL_value cL_value 4 (some .int) [(0, 9, 12, 13), (0, 9, 15, 15)]).before args s = true := h.w hb 425 rfl rfl
set_option maxRecDepth 20000 in
theorem k_421 (h : xC l s0 a0 dC dI cA) (hb : xb s0 s) : (Cond.methodLink RL 46 yX5_value).before args s = true := h.w hb 426 rfl rfl
set_option maxRecDepth 20000 in
theorem k_422 (h : xC l s0 a0 dC dI cA) (hb : xb s0 s) : (Cond.instanceMethod yX5_value).before args s = true := h.w hb 427 rfl rfl
set_option maxRecDepth 20000 in
theorem k_423 (h : xC l s0 a0 dC dI cA) (hb : xb s0 s) : (Cond.selects RX5 yX5_value yX5_value).before args s = true := h.w hb 428 rfl rfl
set_option maxRecDepth 20000 in
theorem k_424 (h : xC l s0 a0 dC dI cA) (hb : xb s0 s) : (Cond.code yX5_value cX5_value 2 (some .int)).before args s = true := h.w hb 429 rfl rfl
set_option maxRecDepth 20000 in
theorem k_425 (h : xC l s0 a0 dC dI cA) (hb : xb s0 s) : (Cond.methodLink RX5 107 yX5_boxAt).before args s = true := h.w hb 430 rfl rfl
set_option maxRecDepth 20000 in
theorem k_427 (h : xC l s0 a0 dC dI cA) (hb : xb s0 s) : (Cond.instanceMethod yX5_boxAt).before args s = true := h.w hb 432 rfl rfl
set_option maxRecDepth 20000 in
theorem k_428 (h : xC l s0 a0 dC dI cA) (hb : xb s0 s) : (Cond.code yX5_boxAt cX5_boxAt 3 (some (.object "FaultBench$Box"))).before args s = true := h.w hb 433 rfl rfl
set_option maxRecDepth 20000 in
theorem k_429 (h : xC l s0 a0 dC dI cA) (hb : xb s0 s) : (Cond.methodLink RX5 156 yX1_boxAtPlace).before args s = true := h.w hb 434 rfl rfl
set_option maxRecDepth 20000 in
theorem k_430 (h : xC l s0 a0 dC dI cA) (hb : xb s0 s) : (Cond.instanceMethod yX1_boxAtPlace).before args s = true := h.w hb 435 rfl rfl
set_option maxRecDepth 20000 in
theorem k_431 (h : xC l s0 a0 dC dI cA) (hb : xb s0 s) : (Cond.selects RX1 yX1_boxAtPlace yX1_boxAtPlace).before args s = true := h.w hb 436 rfl rfl
set_option maxRecDepth 20000 in
theorem k_432 (h : xC l s0 a0 dC dI cA) (hb : xb s0 s) : (Cond.code yX1_boxAtPlace cX1_boxAtPlace 2 (some (.object "FaultBench$Box"))).before args s = true := h.w hb 437 rfl rfl
set_option maxRecDepth 20000 in
theorem k_433 (h : xC l s0 a0 dC dI cA) (hb : xb s0 s) : (Cond.stringRef RX5 159 "no box at this place").before args s = true := h.str hb 438 rfl
set_option maxRecDepth 20000 in
theorem k_434 (h : xC l s0 a0 dC dI cA) (hb : xb s0 s) : (Cond.methodLink RL 118 yL_change).before args s = true := h.w hb 439 rfl rfl
set_option maxRecDepth 20000 in
theorem k_435 (h : xC l s0 a0 dC dI cA) (hb : xb s0 s) : (Cond.static yL_change).before args s = true := h.w hb 440 rfl rfl
set_option maxRecDepth 20000 in
theorem k_436 (h : xC l s0 a0 dC dI cA) (hb : xb s0 s) : (Cond.codeWith yL_change cL_change 5 (some .int) [(0, 10, 13, 13), (0, 10, 17, 15)]).before args s = true := h.w hb 441 rfl rfl
set_option maxRecDepth 20000 in
theorem k_437 (h : xC l s0 a0 dC dI cA) (hb : xb s0 s) : (Cond.methodLink RL 50 yX5_change).before args s = true := h.w hb 442 rfl rfl
set_option maxRecDepth 20000 in
theorem k_438 (h : xC l s0 a0 dC dI cA) (hb : xb s0 s) : (Cond.instanceMethod yX5_change).before args s = true := h.w hb 443 rfl rfl
set_option maxRecDepth 20000 in
theorem k_439 (h : xC l s0 a0 dC dI cA) (hb : xb s0 s) : (Cond.selects RX5 yX5_change yX5_change).before args s = true := h.w hb 444 rfl rfl
set_option maxRecDepth 20000 in
theorem k_440 (h : xC l s0 a0 dC dI cA) (hb : xb s0 s) : (Cond.code yX5_change cX5_change 5 (some .int)).before args s = true := h.w hb 445 rfl rfl
set_option maxRecDepth 20000 in
theorem k_441 (h : xC l s0 a0 dC dI cA) (hb : xb s0 s) : (Cond.methodLink RL 121 yL_weigh).before args s = true := h.w hb 446 rfl rfl
set_option maxRecDepth 20000 in
theorem k_442 (h : xC l s0 a0 dC dI cA) (hb : xb s0 s) : (Cond.static yL_weigh).before args s = true := h.w hb 447 rfl rfl
set_option maxRecDepth 20000 in
theorem k_443 (h : xC l s0 a0 dC dI cA) (hb : xb s0 s) : (Cond.codeWith yL_weigh cL_weigh 5 (some .int) [(0, 10, 13, 13), (0, 10, 17, 15)]).before args s = true := h.w hb 448 rfl rfl
set_option maxRecDepth 20000 in
theorem k_444 (h : xC l s0 a0 dC dI cA) (hb : xb s0 s) : (Cond.methodLink RL 53 yX5_weigh).before args s = true := h.w hb 449 rfl rfl
set_option maxRecDepth 20000 in
theorem k_445 (h : xC l s0 a0 dC dI cA) (hb : xb s0 s) : (Cond.instanceMethod yX5_weigh).before args s = true := h.w hb 450 rfl rfl
set_option maxRecDepth 20000 in
theorem k_446 (h : xC l s0 a0 dC dI cA) (hb : xb s0 s) : (Cond.selects RX5 yX5_weigh yX5_weigh).before args s = true := h.w hb 451 rfl rfl
set_option maxRecDepth 20000 in
theorem k_447 (h : xC l s0 a0 dC dI cA) (hb : xb s0 s) : (Cond.code yX5_weigh cX5_weigh 3 (some .int)).before args s = true := h.w hb 452 rfl rfl
set_option maxRecDepth 20000 in
theorem k_448 (h : xC l s0 a0 dC dI cA) (hb : xb s0 s) : (Cond.methodLink RX5 116 yX0_weightWith).before args s = true := h.w hb 453 rfl rfl
set_option maxRecDepth 20000 in
theorem k_449 (h : xC l s0 a0 dC dI cA) (hb : xb s0 s) : (Cond.instanceMethod yX0_weightWith).before args s = true := h.w hb 454 rfl rfl
set_option maxRecDepth 20000 in
theorem k_450 (h : xC l s0 a0 dC dI cA) (hb : xb s0 s) : (Cond.selects RX0 yX0_weightWith yX0_weightWith).before args s = true := h.w hb 455 rfl rfl
set_option maxRecDepth 20000 in
theorem k_451 (h : xC l s0 a0 dC dI cA) (hb : xb s0 s) : (Cond.sameMethod "FaultBench$Box" "FaultBench$Box" "weightWith" "(I)I").before args s = true := h.w hb 456 rfl rfl
set_option maxRecDepth 20000 in
theorem k_452 (h : xC l s0 a0 dC dI cA) (hb : xb s0 s) : (Cond.selects RX2 yX0_weightWith yX2_weightWith).before args s = true := h.w hb 457 rfl rfl
set_option maxRecDepth 20000 in
theorem k_453 (h : xC l s0 a0 dC dI cA) (hb : xb s0 s) : (Cond.instanceMethod yX2_weightWith).before args s = true := h.w hb 458 rfl rfl
set_option maxRecDepth 20000 in
theorem k_454 (h : xC l s0 a0 dC dI cA) (hb : xb s0 s) : (Cond.code yX2_weightWith cX2_weightWith 2 (some .int)).before args s = true := h.w hb 459 rfl rfl
set_option maxRecDepth 20000 in
theorem k_455 (h : xC l s0 a0 dC dI cA) (hb : xb s0 s) : (Cond.code yX0_weightWith cX0_weightWith 2 (some .int)).before args s = true := h.w hb 460 rfl rfl
set_option maxRecDepth 20000 in
theorem k_456 (h : xC l s0 a0 dC dI cA) (hb : xb s0 s) : (Cond.methodLink RL 124 yL_roll).before args s = true := h.w hb 461 rfl rfl
set_option maxRecDepth 20000 in
theorem k_457 (h : xC l s0 a0 dC dI cA) (hb : xb s0 s) : (Cond.static yL_roll).before args s = true := h.w hb 462 rfl rfl
set_option maxRecDepth 20000 in
theorem k_458 (h : xC l s0 a0 dC dI cA) (hb : xb s0 s) : (Cond.codeWith yL_roll cL_roll 5 (some .int) [(0, 10, 13, 13), (0, 10, 17, 15), (0, 10, 21, 59)]).before args s = true := h.w hb 463 rfl rfl
set_option maxRecDepth 20000 in
theorem k_459 (h : xC l s0 a0 dC dI cA) (hb : xb s0 s) : (Cond.classLink RL 59 "java/lang/ClassCastException").before args s = true := h.w hb 464 rfl rfl
set_option maxRecDepth 20000 in
theorem k_460 (h : xC l s0 a0 dC dI cA) (hb : xb s0 s) : (Cond.methodLink RL 56 yX5_roll).before args s = true := h.w hb 465 rfl rfl
set_option maxRecDepth 20000 in
theorem k_461 (h : xC l s0 a0 dC dI cA) (hb : xb s0 s) : (Cond.instanceMethod yX5_roll).before args s = true := h.w hb 466 rfl rfl
set_option maxRecDepth 20000 in
theorem k_462 (h : xC l s0 a0 dC dI cA) (hb : xb s0 s) : (Cond.selects RX5 yX5_roll yX5_roll).before args s = true := h.w hb 467 rfl rfl
set_option maxRecDepth 20000 in
theorem k_463 (h : xC l s0 a0 dC dI cA) (hb : xb s0 s) : (Cond.code yX5_roll cX5_roll 5 (some .int)).before args s = true := h.w hb 468 rfl rfl
set_option maxRecDepth 20000 in
theorem k_464 (h : xC l s0 a0 dC dI cA) (hb : xb s0 s) : (Cond.methodLink RX5 121 yX2_rolledWith).before args s = true := h.w hb 469 rfl rfl
set_option maxRecDepth 20000 in
theorem k_465 (h : xC l s0 a0 dC dI cA) (hb : xb s0 s) : (Cond.instanceMethod yX2_rolledWith).before args s = true := h.w hb 470 rfl rfl
set_option maxRecDepth 20000 in
theorem k_466 (h : xC l s0 a0 dC dI cA) (hb : xb s0 s) : (Cond.selects RX2 yX2_rolledWith yX2_rolledWith).before args s = true := h.w hb 471 rfl rfl
set_option maxRecDepth 20000 in
theorem k_467 (h : xC l s0 a0 dC dI cA) (hb : xb s0 s) : (Cond.code yX2_rolledWith cX2_rolledWith 2 (some .int)).before args s = true := h.w hb 472 rfl rfl
set_option maxRecDepth 20000 in
theorem k_468 (h : xC l s0 a0 dC dI cA) (hb : xb s0 s) : (Cond.classLink RX5 124 "java/lang/ClassCastException").before args s = true := h.w hb 473 rfl rfl
set_option maxRecDepth 20000 in
theorem k_469 (h : xC l s0 a0 dC dI cA) (hb : xb s0 s) : (Cond.instantiable "java/lang/ClassCastException" 6).before args s = true := h.w hb 474 rfl rfl
set_option maxRecDepth 20000 in
theorem k_470 (h : xC l s0 a0 dC dI cA) (hb : xb s0 s) : (Cond.castable "java/lang/ClassCastException" "java/lang/ClassCastException").before args s = true := h.w hb 475 rfl rfl
set_option maxRecDepth 20000 in
theorem k_471 (h : xC l s0 a0 dC dI cA) (hb : xb s0 s) : (Cond.selects "java/lang/ClassCastException" ⟨"java/lang/Throwable", "fillInStackTrace", "(I)Ljava/lang/Throwable;"⟩ ⟨"java/lang/Throwable", "fillInStackTrace", "(I)Ljava/lang/Throwable;"⟩).before args s = true := h.w hb 476 rfl rfl
set_option maxRecDepth 20000 in
theorem k_477 (h : xC l s0 a0 dC dI cA) (hb : xb s0 s) : (Cond.methodLink RX5 126 ⟨"java/lang/ClassCastException", "<init>", "(Ljava/lang/String;)V"⟩).before args s = true := h.w hb 482 rfl rfl
set_option maxRecDepth 20000 in
theorem k_478 (h : xC l s0 a0 dC dI cA) (hb : xb s0 s) : (Cond.instanceMethod ⟨"java/lang/ClassCastException", "<init>", "(Ljava/lang/String;)V"⟩).before args s = true := h.w hb 483 rfl rfl
set_option maxRecDepth 20000 in
theorem k_479 (h : xC l s0 a0 dC dI cA) (hb : xb s0 s) : (Cond.code ⟨"java/lang/ClassCastException", "<init>", "(Ljava/lang/String;)V"⟩ prog_12_method_2_code 2 none).before args s = true := h.w hb 484 rfl rfl
set_option maxRecDepth 20000 in
theorem k_480 (h : xC l s0 a0 dC dI cA) (hb : xb s0 s) : (Cond.methodLink "java/lang/ClassCastException" 7 ⟨"java/lang/RuntimeException", "<init>", "(Ljava/lang/String;)V"⟩).before args s = true := h.w hb 485 rfl rfl
set_option maxRecDepth 20000 in
theorem k_483 (h : xC l s0 a0 dC dI cA) (hb : xb s0 s) : (Cond.methodLink RL 127 yL_divide).before args s = true := h.w hb 488 rfl rfl
set_option maxRecDepth 20000 in
theorem k_484 (h : xC l s0 a0 dC dI cA) (hb : xb s0 s) : (Cond.static yL_divide).before args s = true := h.w hb 489 rfl rfl
set_option maxRecDepth 20000 in
theorem k_485 (h : xC l s0 a0 dC dI cA) (hb : xb s0 s) : (Cond.codeWith yL_divide cL_divide 6 (some .int) [(0, 12, 15, 65)]).before args s = true := h.w hb 490 rfl rfl
set_option maxRecDepth 20000 in
theorem k_486 (h : xC l s0 a0 dC dI cA) (hb : xb s0 s) : (Cond.classLink RL 65 "java/lang/ArithmeticException").before args s = true := h.w hb 491 rfl rfl
set_option maxRecDepth 20000 in
theorem k_487 (h : xC l s0 a0 dC dI cA) (hb : xb s0 s) : (Cond.methodLink RL 61 yX5_divide).before args s = true := h.w hb 492 rfl rfl
set_option maxRecDepth 20000 in
theorem k_488 (h : xC l s0 a0 dC dI cA) (hb : xb s0 s) : (Cond.instanceMethod yX5_divide).before args s = true := h.w hb 493 rfl rfl
set_option maxRecDepth 20000 in
theorem k_489 (h : xC l s0 a0 dC dI cA) (hb : xb s0 s) : (Cond.selects RX5 yX5_divide yX5_divide).before args s = true := h.w hb 494 rfl rfl
set_option maxRecDepth 20000 in
theorem k_490 (h : xC l s0 a0 dC dI cA) (hb : xb s0 s) : (Cond.code yX5_divide cX5_divide 4 (some .int)).before args s = true := h.w hb 495 rfl rfl
set_option maxRecDepth 20000 in
theorem k_491 (h : xC l s0 a0 dC dI cA) (hb : xb s0 s) : (Cond.methodLink RX5 127 yX5_needDivisor).before args s = true := h.w hb 496 rfl rfl
set_option maxRecDepth 20000 in
theorem k_492 (h : xC l s0 a0 dC dI cA) (hb : xb s0 s) : (Cond.static yX5_needDivisor).before args s = true := h.w hb 497 rfl rfl
set_option maxRecDepth 20000 in
theorem k_493 (h : xC l s0 a0 dC dI cA) (hb : xb s0 s) : (Cond.code yX5_needDivisor cX5_needDivisor 2 none).before args s = true := h.w hb 498 rfl rfl
set_option maxRecDepth 20000 in
theorem k_494 (h : xC l s0 a0 dC dI cA) (hb : xb s0 s) : (Cond.classLink RX5 131 "java/lang/ArithmeticException").before args s = true := h.w hb 499 rfl rfl
set_option maxRecDepth 20000 in
theorem k_495 (h : xC l s0 a0 dC dI cA) (hb : xb s0 s) : (Cond.instantiable "java/lang/ArithmeticException" 6).before args s = true := h.w hb 500 rfl rfl
set_option maxRecDepth 20000 in
theorem k_496 (h : xC l s0 a0 dC dI cA) (hb : xb s0 s) : (Cond.castable "java/lang/ArithmeticException" "java/lang/ArithmeticException").before args s = true := h.w hb 501 rfl rfl
set_option maxRecDepth 20000 in
theorem k_497 (h : xC l s0 a0 dC dI cA) (hb : xb s0 s) : (Cond.selects "java/lang/ArithmeticException" ⟨"java/lang/Throwable", "fillInStackTrace", "(I)Ljava/lang/Throwable;"⟩ ⟨"java/lang/Throwable", "fillInStackTrace", "(I)Ljava/lang/Throwable;"⟩).before args s = true := h.w hb 502 rfl rfl
set_option maxRecDepth 20000 in
theorem k_503 (h : xC l s0 a0 dC dI cA) (hb : xb s0 s) : (Cond.stringRef RX5 151 "a division by 0").before args s = true := h.str hb 508 rfl
set_option maxRecDepth 20000 in
theorem k_504 (h : xC l s0 a0 dC dI cA) (hb : xb s0 s) : (Cond.methodLink RX5 135 ⟨"java/lang/ArithmeticException", "<init>", "(Ljava/lang/String;)V"⟩).before args s = true := h.w hb 509 rfl rfl
set_option maxRecDepth 20000 in
theorem k_505 (h : xC l s0 a0 dC dI cA) (hb : xb s0 s) : (Cond.instanceMethod ⟨"java/lang/ArithmeticException", "<init>", "(Ljava/lang/String;)V"⟩).before args s = true := h.w hb 510 rfl rfl
set_option maxRecDepth 20000 in
theorem k_506 (h : xC l s0 a0 dC dI cA) (hb : xb s0 s) : (Cond.code ⟨"java/lang/ArithmeticException", "<init>", "(Ljava/lang/String;)V"⟩ prog_9_method_2_code 2 none).before args s = true := h.w hb 511 rfl rfl
set_option maxRecDepth 20000 in
theorem k_507 (h : xC l s0 a0 dC dI cA) (hb : xb s0 s) : (Cond.methodLink "java/lang/ArithmeticException" 7 ⟨"java/lang/RuntimeException", "<init>", "(Ljava/lang/String;)V"⟩).before args s = true := h.w hb 512 rfl rfl
set_option maxRecDepth 20000 in
theorem k_510 (h : xC l s0 a0 dC dI cA) (hb : xb s0 s) : (Cond.methodLink RL 133 yL_divideLong).before args s = true := h.w hb 515 rfl rfl
set_option maxRecDepth 20000 in
theorem k_511 (h : xC l s0 a0 dC dI cA) (hb : xb s0 s) : (Cond.static yL_divideLong).before args s = true := h.w hb 516 rfl rfl
set_option maxRecDepth 20000 in
theorem k_512 (h : xC l s0 a0 dC dI cA) (hb : xb s0 s) : (Cond.codeWith yL_divideLong cL_divideLong 8 (some .int) [(0, 12, 15, 65)]).before args s = true := h.w hb 517 rfl rfl
set_option maxRecDepth 20000 in
theorem k_513 (h : xC l s0 a0 dC dI cA) (hb : xb s0 s) : (Cond.methodLink RL 67 yX5_divideLong).before args s = true := h.w hb 518 rfl rfl
set_option maxRecDepth 20000 in
theorem k_514 (h : xC l s0 a0 dC dI cA) (hb : xb s0 s) : (Cond.instanceMethod yX5_divideLong).before args s = true := h.w hb 519 rfl rfl
set_option maxRecDepth 20000 in
theorem k_515 (h : xC l s0 a0 dC dI cA) (hb : xb s0 s) : (Cond.selects RX5 yX5_divideLong yX5_divideLong).before args s = true := h.w hb 520 rfl rfl
set_option maxRecDepth 20000 in
theorem k_516 (h : xC l s0 a0 dC dI cA) (hb : xb s0 s) : (Cond.code yX5_divideLong cX5_divideLong 6 (some .long)).before args s = true := h.w hb 521 rfl rfl
set_option maxRecDepth 20000 in
theorem k_517 (h : xC l s0 a0 dC dI cA) (hb : xb s0 s) : (Cond.methodLink RL 137 yL_raise).before args s = true := h.w hb 522 rfl rfl
set_option maxRecDepth 20000 in
theorem k_518 (h : xC l s0 a0 dC dI cA) (hb : xb s0 s) : (Cond.static yL_raise).before args s = true := h.w hb 523 rfl rfl
set_option maxRecDepth 20000 in
theorem k_519 (h : xC l s0 a0 dC dI cA) (hb : xb s0 s) : (Cond.codeWith yL_raise cL_raise 4 (some .int) [(0, 9, 12, 13), (0, 9, 15, 65)]).before args s = true := h.w hb 524 rfl rfl
set_option maxRecDepth 20000 in
theorem k_520 (h : xC l s0 a0 dC dI cA) (hb : xb s0 s) : (Cond.methodLink RL 71 yX5_raise).before args s = true := h.w hb 525 rfl rfl
set_option maxRecDepth 20000 in
theorem k_521 (h : xC l s0 a0 dC dI cA) (hb : xb s0 s) : (Cond.instanceMethod yX5_raise).before args s = true := h.w hb 526 rfl rfl
set_option maxRecDepth 20000 in
theorem k_522 (h : xC l s0 a0 dC dI cA) (hb : xb s0 s) : (Cond.selects RX5 yX5_raise yX5_raise).before args s = true := h.w hb 527 rfl rfl
set_option maxRecDepth 20000 in
theorem k_523 (h : xC l s0 a0 dC dI cA) (hb : xb s0 s) : (Cond.code yX5_raise cX5_raise 2 (some .int)).before args s = true := h.w hb 528 rfl rfl
set_option maxRecDepth 20000 in
theorem k_524 (h : xC l s0 a0 dC dI cA) (hb : xb s0 s) : (Cond.stringRef RX5 133 "raised").before args s = true := h.str hb 529 rfl
set_option maxRecDepth 20000 in
theorem k_525 (h : xC l s0 a0 dC dI cA) (hb : xb s0 s) : (Cond.classLink RL 76 RX6).before args s = true := h.w hb 530 rfl rfl
set_option maxRecDepth 20000 in
theorem k_526 (h : xC l s0 a0 dC dI cA) (hb : xb s0 s) : (Cond.instantiable RX6 13).before args s = true := h.w hb 531 rfl rfl
set_option maxRecDepth 20000 in
theorem k_527 (h : xC l s0 a0 dC dI cA) (hb : xb s0 s) : (Cond.methodLink RL 78 yX6_init).before args s = true := h.w hb 532 rfl rfl
set_option maxRecDepth 20000 in
theorem k_528 (h : xC l s0 a0 dC dI cA) (hb : xb s0 s) : (Cond.instanceMethod yX6_init).before args s = true := h.w hb 533 rfl rfl
set_option maxRecDepth 20000 in
theorem k_529 (h : xC l s0 a0 dC dI cA) (hb : xb s0 s) : (Cond.code yX6_init cX6_init 2 none).before args s = true := h.w hb 534 rfl rfl
set_option maxRecDepth 20000 in
theorem k_530 (h : xC l s0 a0 dC dI cA) (hb : xb s0 s) : (Cond.methodLink RX6 1 ⟨"java/lang/Object", "<init>", "()V"⟩).before args s = true := h.w hb 535 rfl rfl
set_option maxRecDepth 20000 in
theorem k_531 (h : xC l s0 a0 dC dI cA) (hb : xb s0 s) : (Cond.fieldLink RX6 23 "FaultBenchModel" "thrown" "I").before args s = true := h.w hb 536 rfl rfl
set_option maxRecDepth 20000 in
theorem k_532 (h : xC l s0 a0 dC dI cA) (hb : xb s0 s) : (Cond.fieldLink RX6 7 "FaultBenchModel" "rows" "[J").before args s = true := h.w hb 537 rfl rfl
set_option maxRecDepth 20000 in
theorem k_533 (h : xC l s0 a0 dC dI cA) (hb : xb s0 s) : (Cond.fieldLink RX6 13 "FaultBenchModel" "lengths" "[I").before args s = true := h.w hb 538 rfl rfl
set_option maxRecDepth 20000 in
theorem k_534 (h : xC l s0 a0 dC dI cA) (hb : xb s0 s) : (Cond.fieldLink RX6 44 "FaultBenchModel" "written" "I").before args s = true := h.w hb 539 rfl rfl
set_option maxRecDepth 20000 in
theorem k_535 (h : xC l s0 a0 dC dI cA) (hb : xb s0 s) : (Cond.fieldLink RX6 47 "FaultBenchModel" "gridThere" "Z").before args s = true := h.w hb 540 rfl rfl
set_option maxRecDepth 20000 in
theorem k_536 (h : xC l s0 a0 dC dI cA) (hb : xb s0 s) : (Cond.fieldLink RX6 51 "FaultBenchModel" "gridRows" "I").before args s = true := h.w hb 541 rfl rfl
set_option maxRecDepth 20000 in
theorem k_537 (h : xC l s0 a0 dC dI cA) (hb : xb s0 s) : (Cond.fieldLink RX6 54 "FaultBenchModel" "gridCells" "I").before args s = true := h.w hb 542 rfl rfl
set_option maxRecDepth 20000 in
theorem k_538 (h : xC l s0 a0 dC dI cA) (hb : xb s0 s) : (Cond.fieldLink RX6 57 "FaultBenchModel" "boxesThere" "Z").before args s = true := h.w hb 543 rfl rfl
set_option maxRecDepth 20000 in
theorem k_539 (h : xC l s0 a0 dC dI cA) (hb : xb s0 s) : (Cond.fieldLink RX6 60 "FaultBenchModel" "discsAlone" "Z").before args s = true := h.w hb 544 rfl rfl
set_option maxRecDepth 20000 in
theorem k_540 (h : xC l s0 a0 dC dI cA) (hb : xb s0 s) : (Cond.fieldLink RX6 63 "FaultBenchModel" "places" "I").before args s = true := h.w hb 545 rfl rfl
set_option maxRecDepth 20000 in
theorem k_541 (h : xC l s0 a0 dC dI cA) (hb : xb s0 s) : (Cond.fieldLink RX6 66 "FaultBenchModel" "came" "I").before args s = true := h.w hb 546 rfl rfl
set_option maxRecDepth 20000 in
theorem k_542 (h : xC l s0 a0 dC dI cA) (hb : xb s0 s) : (Cond.fieldLink RX6 17 "FaultBenchModel" "sort" "[I").before args s = true := h.w hb 547 rfl rfl
set_option maxRecDepth 20000 in
theorem k_543 (h : xC l s0 a0 dC dI cA) (hb : xb s0 s) : (Cond.fieldLink RX6 20 "FaultBenchModel" "values" "[I").before args s = true := h.w hb 548 rfl rfl
set_option maxRecDepth 20000 in
theorem k_571 (h : xC l s0 a0 dC dI cA) (hb : xb s0 s) : (Cond.methodLink RL 85 yX6_thrown).before args s = true := h.w hb 576 rfl rfl
set_option maxRecDepth 20000 in
theorem k_572 (h : xC l s0 a0 dC dI cA) (hb : xb s0 s) : (Cond.instanceMethod yX6_thrown).before args s = true := h.w hb 577 rfl rfl
set_option maxRecDepth 20000 in
theorem k_573 (h : xC l s0 a0 dC dI cA) (hb : xb s0 s) : (Cond.selects RX6 yX6_thrown yX6_thrown).before args s = true := h.w hb 578 rfl rfl
set_option maxRecDepth 20000 in
theorem k_574 (h : xC l s0 a0 dC dI cA) (hb : xb s0 s) : (Cond.code yX6_thrown cX6_thrown 1 (some .int)).before args s = true := h.w hb 579 rfl rfl
set_option maxRecDepth 20000 in
theorem k_575 (h : xC l s0 a0 dC dI cA) (hb : xb s0 s) : (Cond.methodLink RL 84 yX6_read).before args s = true := h.w hb 580 rfl rfl
set_option maxRecDepth 20000 in
theorem k_576 (h : xC l s0 a0 dC dI cA) (hb : xb s0 s) : (Cond.instanceMethod yX6_read).before args s = true := h.w hb 581 rfl rfl
set_option maxRecDepth 20000 in
theorem k_577 (h : xC l s0 a0 dC dI cA) (hb : xb s0 s) : (Cond.selects RX6 yX6_read yX6_read).before args s = true := h.w hb 582 rfl rfl
set_option maxRecDepth 20000 in
theorem k_578 (h : xC l s0 a0 dC dI cA) (hb : xb s0 s) : (Cond.code yX6_read cX6_read 5 (some .long)).before args s = true := h.w hb 583 rfl rfl
set_option maxRecDepth 20000 in
theorem k_579 (h : xC l s0 a0 dC dI cA) (hb : xb s0 s) : (Cond.methodLink RX6 36 yX6_fails).before args s = true := h.w hb 584 rfl rfl
set_option maxRecDepth 20000 in
theorem k_581 (h : xC l s0 a0 dC dI cA) (hb : xb s0 s) : (Cond.instanceMethod yX6_fails).before args s = true := h.w hb 586 rfl rfl
set_option maxRecDepth 20000 in
theorem k_582 (h : xC l s0 a0 dC dI cA) (hb : xb s0 s) : (Cond.code yX6_fails cX6_fails 2 (some .int)).before args s = true := h.w hb 587 rfl rfl
set_option maxRecDepth 20000 in
theorem k_583 (h : xC l s0 a0 dC dI cA) (hb : xb s0 s) : (Cond.methodLink RL 92 yX6_write).before args s = true := h.w hb 588 rfl rfl
set_option maxRecDepth 20000 in
theorem k_584 (h : xC l s0 a0 dC dI cA) (hb : xb s0 s) : (Cond.instanceMethod yX6_write).before args s = true := h.w hb 589 rfl rfl
set_option maxRecDepth 20000 in
theorem k_585 (h : xC l s0 a0 dC dI cA) (hb : xb s0 s) : (Cond.selects RX6 yX6_write yX6_write).before args s = true := h.w hb 590 rfl rfl
set_option maxRecDepth 20000 in
theorem k_586 (h : xC l s0 a0 dC dI cA) (hb : xb s0 s) : (Cond.code yX6_write cX6_write 6 (some .int)).before args s = true := h.w hb 591 rfl rfl
set_option maxRecDepth 20000 in
theorem k_587 (h : xC l s0 a0 dC dI cA) (hb : xb s0 s) : (Cond.methodLink RX6 40 yX6_kept).before args s = true := h.w hb 592 rfl rfl
set_option maxRecDepth 20000 in
theorem k_588 (h : xC l s0 a0 dC dI cA) (hb : xb s0 s) : (Cond.static yX6_kept).before args s = true := h.w hb 593 rfl rfl
set_option maxRecDepth 20000 in
theorem k_589 (h : xC l s0 a0 dC dI cA) (hb : xb s0 s) : (Cond.code yX6_kept cX6_kept 3 (some .long)).before args s = true := h.w hb 594 rfl rfl
set_option maxRecDepth 20000 in
theorem k_590 (h : xC l s0 a0 dC dI cA) (hb : xb s0 s) : (Cond.constant RX6 29 (65535 : Int32)).before args s = true := h.w hb 595 rfl rfl
set_option maxRecDepth 20000 in
theorem k_591 (h : xC l s0 a0 dC dI cA) (hb : xb s0 s) : (Cond.constant RX6 30 (32768 : Int32)).before args s = true := h.w hb 596 rfl rfl
set_option maxRecDepth 20000 in
theorem k_592 (h : xC l s0 a0 dC dI cA) (hb : xb s0 s) : (Cond.constant RX6 31 (65536 : Int32)).before args s = true := h.w hb 597 rfl rfl
set_option maxRecDepth 20000 in
theorem k_593 (h : xC l s0 a0 dC dI cA) (hb : xb s0 s) : (Cond.methodLink RX6 32 yX6_nearest).before args s = true := h.w hb 598 rfl rfl
set_option maxRecDepth 20000 in
theorem k_594 (h : xC l s0 a0 dC dI cA) (hb : xb s0 s) : (Cond.static yX6_nearest).before args s = true := h.w hb 599 rfl rfl
set_option maxRecDepth 20000 in
theorem k_595 (h : xC l s0 a0 dC dI cA) (hb : xb s0 s) : (Cond.code yX6_nearest cX6_nearest 10 (some .long)).before args s = true := h.w hb 600 rfl rfl
set_option maxRecDepth 20000 in
theorem k_596 (h : xC l s0 a0 dC dI cA) (hb : xb s0 s) : (Cond.constantLong RX6 27 (16777216 : Int64)).before args s = true := h.w hb 601 rfl rfl
set_option maxRecDepth 20000 in
theorem k_597 (h : xC l s0 a0 dC dI cA) (hb : xb s0 s) : (Cond.methodLink RL 96 yX6_length).before args s = true := h.w hb 602 rfl rfl
set_option maxRecDepth 20000 in
theorem k_598 (h : xC l s0 a0 dC dI cA) (hb : xb s0 s) : (Cond.instanceMethod yX6_length).before args s = true := h.w hb 603 rfl rfl
set_option maxRecDepth 20000 in
theorem k_599 (h : xC l s0 a0 dC dI cA) (hb : xb s0 s) : (Cond.selects RX6 yX6_length yX6_length).before args s = true := h.w hb 604 rfl rfl
set_option maxRecDepth 20000 in
theorem k_600 (h : xC l s0 a0 dC dI cA) (hb : xb s0 s) : (Cond.code yX6_length cX6_length 3 (some .int)).before args s = true := h.w hb 605 rfl rfl
set_option maxRecDepth 20000 in
theorem k_601 (h : xC l s0 a0 dC dI cA) (hb : xb s0 s) : (Cond.methodLink RL 100 yX6_make).before args s = true := h.w hb 606 rfl rfl
set_option maxRecDepth 20000 in
theorem k_602 (h : xC l s0 a0 dC dI cA) (hb : xb s0 s) : (Cond.instanceMethod yX6_make).before args s = true := h.w hb 607 rfl rfl
set_option maxRecDepth 20000 in
theorem k_603 (h : xC l s0 a0 dC dI cA) (hb : xb s0 s) : (Cond.selects RX6 yX6_make yX6_make).before args s = true := h.w hb 608 rfl rfl
set_option maxRecDepth 20000 in
theorem k_604 (h : xC l s0 a0 dC dI cA) (hb : xb s0 s) : (Cond.code yX6_make cX6_make 6 (some .int)).before args s = true := h.w hb 609 rfl rfl
set_option maxRecDepth 20000 in
theorem k_605 (h : xC l s0 a0 dC dI cA) (hb : xb s0 s) : (Cond.methodLink RL 103 yX6_grid).before args s = true := h.w hb 610 rfl rfl
set_option maxRecDepth 20000 in
theorem k_606 (h : xC l s0 a0 dC dI cA) (hb : xb s0 s) : (Cond.instanceMethod yX6_grid).before args s = true := h.w hb 611 rfl rfl
set_option maxRecDepth 20000 in
theorem k_607 (h : xC l s0 a0 dC dI cA) (hb : xb s0 s) : (Cond.selects RX6 yX6_grid yX6_grid).before args s = true := h.w hb 612 rfl rfl
set_option maxRecDepth 20000 in
theorem k_608 (h : xC l s0 a0 dC dI cA) (hb : xb s0 s) : (Cond.code yX6_grid cX6_grid 5 (some .int)).before args s = true := h.w hb 613 rfl rfl
set_option maxRecDepth 20000 in
theorem k_609 (h : xC l s0 a0 dC dI cA) (hb : xb s0 s) : (Cond.methodLink RL 106 yX6_cell).before args s = true := h.w hb 614 rfl rfl
set_option maxRecDepth 20000 in
theorem k_610 (h : xC l s0 a0 dC dI cA) (hb : xb s0 s) : (Cond.instanceMethod yX6_cell).before args s = true := h.w hb 615 rfl rfl
set_option maxRecDepth 20000 in
theorem k_611 (h : xC l s0 a0 dC dI cA) (hb : xb s0 s) : (Cond.selects RX6 yX6_cell yX6_cell).before args s = true := h.w hb 616 rfl rfl
set_option maxRecDepth 20000 in
theorem k_612 (h : xC l s0 a0 dC dI cA) (hb : xb s0 s) : (Cond.code yX6_cell cX6_cell 3 (some .int)).before args s = true := h.w hb 617 rfl rfl
set_option maxRecDepth 20000 in
theorem k_613 (h : xC l s0 a0 dC dI cA) (hb : xb s0 s) : (Cond.methodLink RL 109 yX6_boxes).before args s = true := h.w hb 618 rfl rfl
set_option maxRecDepth 20000 in
theorem k_614 (h : xC l s0 a0 dC dI cA) (hb : xb s0 s) : (Cond.instanceMethod yX6_boxes).before args s = true := h.w hb 619 rfl rfl
set_option maxRecDepth 20000 in
theorem k_615 (h : xC l s0 a0 dC dI cA) (hb : xb s0 s) : (Cond.selects RX6 yX6_boxes yX6_boxes).before args s = true := h.w hb 620 rfl rfl
set_option maxRecDepth 20000 in
theorem k_616 (h : xC l s0 a0 dC dI cA) (hb : xb s0 s) : (Cond.code yX6_boxes cX6_boxes 5 (some .int)).before args s = true := h.w hb 621 rfl rfl
set_option maxRecDepth 20000 in
theorem k_617 (h : xC l s0 a0 dC dI cA) (hb : xb s0 s) : (Cond.methodLink RL 113 yX6_put).before args s = true := h.w hb 622 rfl rfl
set_option maxRecDepth 20000 in
theorem k_618 (h : xC l s0 a0 dC dI cA) (hb : xb s0 s) : (Cond.instanceMethod yX6_put).before args s = true := h.w hb 623 rfl rfl
set_option maxRecDepth 20000 in
theorem k_619 (h : xC l s0 a0 dC dI cA) (hb : xb s0 s) : (Cond.selects RX6 yX6_put yX6_put).before args s = true := h.w hb 624 rfl rfl
set_option maxRecDepth 20000 in
theorem k_620 (h : xC l s0 a0 dC dI cA) (hb : xb s0 s) : (Cond.code yX6_put cX6_put 6 (some .int)).before args s = true := h.w hb 625 rfl rfl
set_option maxRecDepth 20000 in
theorem k_621 (h : xC l s0 a0 dC dI cA) (hb : xb s0 s) : (Cond.methodLink RL 117 yX6_value).before args s = true := h.w hb 626 rfl rfl
set_option maxRecDepth 20000 in
theorem k_622 (h : xC l s0 a0 dC dI cA) (hb : xb s0 s) : (Cond.instanceMethod yX6_value).before args s = true := h.w hb 627 rfl rfl
set_option maxRecDepth 20000 in
theorem k_623 (h : xC l s0 a0 dC dI cA) (hb : xb s0 s) : (Cond.selects RX6 yX6_value yX6_value).before args s = true := h.w hb 628 rfl rfl
set_option maxRecDepth 20000 in
theorem k_624 (h : xC l s0 a0 dC dI cA) (hb : xb s0 s) : (Cond.code yX6_value cX6_value 2 (some .int)).before args s = true := h.w hb 629 rfl rfl
set_option maxRecDepth 20000 in
theorem k_625 (h : xC l s0 a0 dC dI cA) (hb : xb s0 s) : (Cond.methodLink RX6 69 yX6_isThere).before args s = true := h.w hb 630 rfl rfl
set_option maxRecDepth 20000 in
theorem k_627 (h : xC l s0 a0 dC dI cA) (hb : xb s0 s) : (Cond.instanceMethod yX6_isThere).before args s = true := h.w hb 632 rfl rfl
set_option maxRecDepth 20000 in
theorem k_628 (h : xC l s0 a0 dC dI cA) (hb : xb s0 s) : (Cond.code yX6_isThere cX6_isThere 2 (some .boolean)).before args s = true := h.w hb 633 rfl rfl
set_option maxRecDepth 20000 in
theorem k_629 (h : xC l s0 a0 dC dI cA) (hb : xb s0 s) : (Cond.methodLink RL 120 yX6_change).before args s = true := h.w hb 634 rfl rfl
set_option maxRecDepth 20000 in
theorem k_630 (h : xC l s0 a0 dC dI cA) (hb : xb s0 s) : (Cond.instanceMethod yX6_change).before args s = true := h.w hb 635 rfl rfl
set_option maxRecDepth 20000 in
theorem k_631 (h : xC l s0 a0 dC dI cA) (hb : xb s0 s) : (Cond.selects RX6 yX6_change yX6_change).before args s = true := h.w hb 636 rfl rfl
set_option maxRecDepth 20000 in
theorem k_632 (h : xC l s0 a0 dC dI cA) (hb : xb s0 s) : (Cond.code yX6_change cX6_change 4 (some .int)).before args s = true := h.w hb 637 rfl rfl
set_option maxRecDepth 20000 in
theorem k_633 (h : xC l s0 a0 dC dI cA) (hb : xb s0 s) : (Cond.methodLink RL 123 yX6_weigh).before args s = true := h.w hb 638 rfl rfl
set_option maxRecDepth 20000 in
theorem k_634 (h : xC l s0 a0 dC dI cA) (hb : xb s0 s) : (Cond.instanceMethod yX6_weigh).before args s = true := h.w hb 639 rfl rfl
set_option maxRecDepth 20000 in
theorem k_635 (h : xC l s0 a0 dC dI cA) (hb : xb s0 s) : (Cond.selects RX6 yX6_weigh yX6_weigh).before args s = true := h.w hb 640 rfl rfl
set_option maxRecDepth 20000 in
theorem k_636 (h : xC l s0 a0 dC dI cA) (hb : xb s0 s) : (Cond.code yX6_weigh cX6_weigh 3 (some .int)).before args s = true := h.w hb 641 rfl rfl
set_option maxRecDepth 20000 in
theorem k_637 (h : xC l s0 a0 dC dI cA) (hb : xb s0 s) : (Cond.methodLink RL 126 yX6_roll).before args s = true := h.w hb 642 rfl rfl
set_option maxRecDepth 20000 in
theorem k_638 (h : xC l s0 a0 dC dI cA) (hb : xb s0 s) : (Cond.instanceMethod yX6_roll).before args s = true := h.w hb 643 rfl rfl
set_option maxRecDepth 20000 in
theorem k_639 (h : xC l s0 a0 dC dI cA) (hb : xb s0 s) : (Cond.selects RX6 yX6_roll yX6_roll).before args s = true := h.w hb 644 rfl rfl
set_option maxRecDepth 20000 in
theorem k_640 (h : xC l s0 a0 dC dI cA) (hb : xb s0 s) : (Cond.code yX6_roll cX6_roll 3 (some .int)).before args s = true := h.w hb 645 rfl rfl
set_option maxRecDepth 20000 in
theorem k_641 (h : xC l s0 a0 dC dI cA) (hb : xb s0 s) : (Cond.methodLink RL 130 yX6_divide).before args s = true := h.w hb 646 rfl rfl
set_option maxRecDepth 20000 in
theorem k_642 (h : xC l s0 a0 dC dI cA) (hb : xb s0 s) : (Cond.instanceMethod yX6_divide).before args s = true := h.w hb 647 rfl rfl
set_option maxRecDepth 20000 in
theorem k_643 (h : xC l s0 a0 dC dI cA) (hb : xb s0 s) : (Cond.selects RX6 yX6_divide yX6_divide).before args s = true := h.w hb 648 rfl rfl
set_option maxRecDepth 20000 in
theorem k_644 (h : xC l s0 a0 dC dI cA) (hb : xb s0 s) : (Cond.code yX6_divide cX6_divide 4 (some .int)).before args s = true := h.w hb 649 rfl rfl
set_option maxRecDepth 20000 in
theorem k_645 (h : xC l s0 a0 dC dI cA) (hb : xb s0 s) : (Cond.methodLink RL 136 yX6_divideLong).before args s = true := h.w hb 650 rfl rfl
set_option maxRecDepth 20000 in
theorem k_646 (h : xC l s0 a0 dC dI cA) (hb : xb s0 s) : (Cond.instanceMethod yX6_divideLong).before args s = true := h.w hb 651 rfl rfl
set_option maxRecDepth 20000 in
theorem k_647 (h : xC l s0 a0 dC dI cA) (hb : xb s0 s) : (Cond.selects RX6 yX6_divideLong yX6_divideLong).before args s = true := h.w hb 652 rfl rfl
set_option maxRecDepth 20000 in
theorem k_648 (h : xC l s0 a0 dC dI cA) (hb : xb s0 s) : (Cond.code yX6_divideLong cX6_divideLong 6 (some .long)).before args s = true := h.w hb 653 rfl rfl
set_option maxRecDepth 20000 in
theorem k_649 (h : xC l s0 a0 dC dI cA) (hb : xb s0 s) : (Cond.methodLink RL 140 yX6_raise).before args s = true := h.w hb 654 rfl rfl
set_option maxRecDepth 20000 in
theorem k_650 (h : xC l s0 a0 dC dI cA) (hb : xb s0 s) : (Cond.instanceMethod yX6_raise).before args s = true := h.w hb 655 rfl rfl
set_option maxRecDepth 20000 in
theorem k_651 (h : xC l s0 a0 dC dI cA) (hb : xb s0 s) : (Cond.selects RX6 yX6_raise yX6_raise).before args s = true := h.w hb 656 rfl rfl
set_option maxRecDepth 20000 in
theorem k_652 (h : xC l s0 a0 dC dI cA) (hb : xb s0 s) : (Cond.code yX6_raise cX6_raise 2 (some .int)).before args s = true := h.w hb 657 rfl rfl
set_option maxRecDepth 20000 in
theorem k_653 (h : xC l s0 a0 dC dI cA) (hb : xb s0 s) : (Cond.constantLong RL 131 (4294967295 : Int64)).before args s = true := h.w hb 658 rfl rfl
set_option maxRecDepth 20000 in
theorem k_654 (h : xC l s0 a0 dC dI cA) (hb : xb s0 s) : (Cond.sameMethod "java/lang/Throwable" "java/lang/Throwable" "fillInStackTrace" "(I)Ljava/lang/Throwable;").before args s = true := h.w hb 659 rfl rfl
set_option maxRecDepth 20000 in
theorem k_655 (h : xC l s0 a0 dC dI cA) (hb : xb s0 s) : (Cond.castable "FaultBench$Disc" "FaultBench$Disc").before args s = true := h.w hb 660 rfl rfl
set_option maxRecDepth 20000 in
theorem k_656 (h : xC l s0 a0 dC dI cA) (hb : xb s0 s) : (Cond.castable "FaultBench$Disc" "FaultBench$Box").before args s = true := h.w hb 661 rfl rfl
theorem ks_2 (h : xC l s0 a0 dC dI cA) (hb : xb s0 s) : (Cond.selects yX5_boxAt.cls yX5_boxAt yX5_boxAt).before args s = true := h.w hb 2 rfl rfl
theorem ks_3 (h : xC l s0 a0 dC dI cA) (hb : xb s0 s) : (Cond.selects yX6_fails.cls yX6_fails yX6_fails).before args s = true := h.w hb 3 rfl rfl
theorem ks_4 (h : xC l s0 a0 dC dI cA) (hb : xb s0 s) : (Cond.selects yX6_isThere.cls yX6_isThere yX6_isThere).before args s = true := h.w hb 4 rfl rfl
theorem ly_0 (h : xC l s0 a0 dC dI cA) (hb : xb s0 s) : ∀ w ∈ u_ws RX0 TX0 1, w.before args s = true := h.all hb _ (by decide +kernel)
theorem ly_1 (h : xC l s0 a0 dC dI cA) (hb : xb s0 s) : ∀ w ∈ u_ws RX1 TX1 4, w.before args s = true := h.all hb _ (by decide +kernel)
theorem ly_2 (h : xC l s0 a0 dC dI cA) (hb : xb s0 s) : ∀ w ∈ u_ws RX2 TX2 1, w.before args s = true := h.all hb _ (by decide +kernel)
theorem ly_3 (h : xC l s0 a0 dC dI cA) (hb : xb s0 s) : ∀ w ∈ u_ws RX3 TX3 4, w.before args s = true := h.all hb _ (by decide +kernel)
theorem ly_4 (h : xC l s0 a0 dC dI cA) (hb : xb s0 s) : ∀ w ∈ u_ws RX4 TX4 9, w.before args s = true := h.all hb _ (by decide +kernel)
theorem ly_5 (h : xC l s0 a0 dC dI cA) (hb : xb s0 s) : ∀ w ∈ u_ws RX5 TX5 5, w.before args s = true := h.all hb _ (by decide +kernel)
theorem ly_6 (h : xC l s0 a0 dC dI cA) (hb : xb s0 s) : ∀ w ∈ u_ws RX6 TX6 13, w.before args s = true := h.all hb _ (by decide +kernel)
end XWA
