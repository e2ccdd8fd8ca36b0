set_option maxRecDepth 100000 in
theorem xo_145 {l : Launch} {s0 : State} {a0 : Array Value} {dC : Nat → ClassId} {dI : Nat → Nat → Nat} {cA : Nat → ClassId} {s : State} {args : Array Value} (h : xC l s0 a0 dC dI cA) (hb : xb s0 s) : ∀ w ∈ Bundle.ownAtoms RX5 145 "java/lang/ArrayIndexOutOfBoundsException" ["java/lang/IndexOutOfBoundsException", "java/lang/RuntimeException", "java/lang/Exception"], w.before args s = true := h.all hb _ (by decide +kernel)
set_option maxRecDepth 100000 in
theorem xo_150 {l : Launch} {s0 : State} {a0 : Array Value} {dC : Nat → ClassId} {dI : Nat → Nat → Nat} {cA : Nat → ClassId} {s : State} {args : Array Value} (h : xC l s0 a0 dC dI cA) (hb : xb s0 s) : ∀ w ∈ Bundle.ownAtoms RX5 150 "java/lang/NegativeArraySizeException" ["java/lang/RuntimeException", "java/lang/Exception"], w.before args s = true := h.all hb _ (by decide +kernel)
set_option maxRecDepth 100000 in
theorem xo_135 {l : Launch} {s0 : State} {a0 : Array Value} {dC : Nat → ClassId} {dI : Nat → Nat → Nat} {cA : Nat → ClassId} {s : State} {args : Array Value} (h : xC l s0 a0 dC dI cA) (hb : xb s0 s) : ∀ w ∈ Bundle.ownAtoms RX5 135 "java/lang/ArithmeticException" ["java/lang/RuntimeException", "java/lang/Exception"], w.before args s = true := h.all hb _ (by decide +kernel)
set_option maxRecDepth 100000 in
theorem xo_101 {l : Launch} {s0 : State} {a0 : Array Value} {dC : Nat → ClassId} {dI : Nat → Nat → Nat} {cA : Nat → ClassId} {s : State} {args : Array Value} (h : xC l s0 a0 dC dI cA) (hb : xb s0 s) : ∀ w ∈ Bundle.ownAtoms RX5 101 "java/lang/ArrayStoreException" ["java/lang/RuntimeException", "java/lang/Exception"], w.before args s = true := h.all hb _ (by decide +kernel)
set_option maxRecDepth 100000 in
theorem xo_126 {l : Launch} {s0 : State} {a0 : Array Value} {dC : Nat → ClassId} {dI : Nat → Nat → Nat} {cA : Nat → ClassId} {s : State} {args : Array Value} (h : xC l s0 a0 dC dI cA) (hb : xb s0 s) : ∀ w ∈ Bundle.ownAtoms RX5 126 "java/lang/ClassCastException" ["java/lang/RuntimeException", "java/lang/Exception"], w.before args s = true := h.all hb _ (by decide +kernel)
set_option maxHeartbeats 4000000 in
set_option maxRecDepth 100000 in
theorem c_kindOf {l : Launch} {s0 : State} {a0 : Array Value} {dC : Nat → ClassId} {dI : Nat → Nat → Nat} {cA : Nat → ClassId} (h : xC l s0 a0 dC dI cA) (p0 : Int32)  : Met l yX5_kindOf [Cond.code yX5_kindOf cX5_kindOf 1 (some .int)] ({ frames := 0, cells := 0, slots := 0, locals := 0 } : Room) (xP s0 (dC, dI) [.int p0] []) (xR (some (.int (p0 &&& 7)))) 0 0 (fun _ => False) := by
  refine Met.ofW (cc := cX5_kindOf) (maxL := 1) (ret := (some .int)) (by decide) rfl ?_
  intro p e s m args below meth c s₁ B hml hv
  obtain ⟨rfl, hb0, hP⟩ := hv
  have hx := B.exec
  have hb := B.bytes
  have hr := B.returns
  have hown : s.vm.findClass RX5 = some m.cls := findClass_of_methodNamed B.named
  have hlocks := B.notSynchronized
  have hK := h.K hb0
  have hS : va_S (fun _ : Nat => False) s.heap s.heap [] := va_S.rf
  have hz : ∀ q : Nat, (fun _ : Nat => False) q → s0.heap.size ≤ q := fun _ z => z.elim
  have hl := lv_entry ([.int p0]) (n := 1) (Nat.le_of_ble_eq_true rfl)
  rw [lg_entry_eq]
  generalize (lg_sl ([.int p0]) ++ List.replicate (1 - (lg_sl ([.int p0])).length) Slot.unset).toArray = ls at hl ⊢
  have hl : lv_has ls 1 [(0, .int p0)] := hl
  refine lv_iload_n hx hb dX5_kindOf_0 rfl (lv_at hl 0 rfl) ?_
  refine lv_bipush (v := 7) hx hb dX5_kindOf_1 (by decide) ?_
  refine lv_iand hx hb dX5_kindOf_3 ?_
  exact W.iret hx hb hr (fun t ht _ => ⟨rfl, ht⟩) (fun q z => nomatch z) dX5_kindOf_4
set_option maxHeartbeats 4000000 in
set_option maxRecDepth 100000 in
theorem c_needSize {l : Launch} {s0 : State} {a0 : Array Value} {dC : Nat → ClassId} {dI : Nat → Nat → Nat} {cA : Nat → ClassId} (h : xC l s0 a0 dC dI cA) (p0 : Int32) (hc : ¬ p0 < 0) : Met l yX5_needSize [Cond.code yX5_needSize cX5_needSize 1 none] ({ frames := 0, cells := 0, slots := 0, locals := 0 } : Room) (xP s0 (dC, dI) [.int p0] []) (xR none) 0 0 (fun _ => False) := by
  refine Met.ofW (cc := cX5_needSize) (maxL := 1) (ret := none) (by decide) rfl ?_
  intro p e s m args below meth c s₁ B hml hv
  obtain ⟨rfl, hb0, hP⟩ := hv
  have hx := B.exec
  have hb := B.bytes
  have hr := B.returns
  have hown : s.vm.findClass RX5 = some m.cls := findClass_of_methodNamed B.named
  have hlocks := B.notSynchronized
  have hK := h.K hb0
  have hS : va_S (fun _ : Nat => False) s.heap s.heap [] := va_S.rf
  have hz : ∀ q : Nat, (fun _ : Nat => False) q → s0.heap.size ≤ q := fun _ z => z.elim
  have hl := lv_entry ([.int p0]) (n := 1) (Nat.le_of_ble_eq_true rfl)
  rw [lg_entry_eq]
  generalize (lg_sl ([.int p0]) ++ List.replicate (1 - (lg_sl ([.int p0])).length) Slot.unset).toArray = ls at hl ⊢
  have hl : lv_has ls 1 [(0, .int p0)] := hl
  refine lv_iload_n hx hb dX5_needSize_0 rfl (lv_at hl 0 rfl) ?_
  refine lv_if_ge (tgt := 14) hx hb dX5_needSize_1 (by decide) (fun c_1 => ?_) (fun c_1 => ?_)
  · exact W.vret hx hb hr (fun t ht _ => ⟨rfl, ht⟩) (fun q z => nomatch z) dX5_needSize_14
  · exact absurd (Int32.not_lt.mp hc) c_1
set_option maxHeartbeats 4000000 in
set_option maxRecDepth 100000 in
theorem t_needSize {l : Launch} {s0 : State} {a0 : Array Value} {dC : Nat → ClassId} {dI : Nat → Nat → Nat} {cA : Nat → ClassId} (h : xC l s0 a0 dC dI cA) (p0 : Int32) (hc : p0 < 0) : xt_Met l yX5_needSize [Cond.code yX5_needSize cX5_needSize 1 none] ({ frames := 6, cells := 1, slots := 6, locals := 100 } : Room) (xP s0 (dC, dI) [.int p0] []) "java/lang/NegativeArraySizeException" 1 6 := by
  refine xt_ofW (cc := cX5_needSize) (maxL := 1) (ret := none) (by decide) rfl ?_
  intro p e s m args below meth c s₁ B hml hout hv
  obtain ⟨rfl, hb0, hP⟩ := hv
  have hx := B.exec
  have hb := B.bytes
  have hr := B.returns
  have hown : s.vm.findClass RX5 = some m.cls := findClass_of_methodNamed B.named
  have hlocks := B.notSynchronized
  have hK := h.K hb0
  have hS : va_S (fun _ : Nat => False) s.heap s.heap [] := va_S.rf
  have hz : ∀ q : Nat, (fun _ : Nat => False) q → s0.heap.size ≤ q := fun _ z => z.elim
  have hl := lv_entry ([.int p0]) (n := 1) (Nat.le_of_ble_eq_true rfl)
  rw [lg_entry_eq]
  generalize (lg_sl ([.int p0]) ++ List.replicate (1 - (lg_sl ([.int p0])).length) Slot.unset).toArray = ls at hl ⊢
  have hl : lv_has ls 1 [(0, .int p0)] := hl
  refine lv_iload_n hx hb dX5_needSize_0 rfl (lv_at hl 0 rfl) ?_
  refine lv_if_ge (tgt := 14) hx hb dX5_needSize_1 (by decide) (fun c_1 => ?_) (fun c_1 => ?_)
  · exact absurd hc (Int32.not_lt.mpr c_1)
  · exact xt_throwS (own := RX5) (names := ["java/lang/RuntimeException", "java/lang/Exception"]) hx hb h.1 hown (by decide) (by decide) (k_287 h hb0) (k_12 h hb0) (k_296 h hb0) (xo_150 h hb0) (hl.1.trans hml.symm) hout hlocks dX5_needSize_4 dX5_needSize_7 dX5_needSize_8 dX5_needSize_10 dX5_needSize_13 (by decide) (by decide) (by decide) (by decide) (by decide) (by decide)
set_option maxHeartbeats 4000000 in
set_option maxRecDepth 100000 in
theorem c_needPlace {l : Launch} {s0 : State} {a0 : Array Value} {dC : Nat → ClassId} {dI : Nat → Nat → Nat} {cA : Nat → ClassId} (h : xC l s0 a0 dC dI cA) (p0 p1 : Int32) (hc : ¬ p0 < 0) (hd : p0 < p1) : Met l yX5_needPlace [Cond.code yX5_needPlace cX5_needPlace 2 none] ({ frames := 0, cells := 0, slots := 0, locals := 0 } : Room) (xP s0 (dC, dI) [.int p0, .int p1] []) (xR none) 0 0 (fun _ => False) := by
  refine Met.ofW (cc := cX5_needPlace) (maxL := 2) (ret := none) (by decide) rfl ?_
  intro p e s m args below meth c s₁ B hml hv
  obtain ⟨rfl, hb0, hP⟩ := hv
  have hx := B.exec
  have hb := B.bytes
  have hr := B.returns
  have hown : s.vm.findClass RX5 = some m.cls := findClass_of_methodNamed B.named
  have hlocks := B.notSynchronized
  have hK := h.K hb0
  have hS : va_S (fun _ : Nat => False) s.heap s.heap [] := va_S.rf
  have hz : ∀ q : Nat, (fun _ : Nat => False) q → s0.heap.size ≤ q := fun _ z => z.elim
  have hl := lv_entry ([.int p0, .int p1]) (n := 2) (Nat.le_of_ble_eq_true rfl)
  rw [lg_entry_eq]
  generalize (lg_sl ([.int p0, .int p1]) ++ List.replicate (2 - (lg_sl ([.int p0, .int p1])).length) Slot.unset).toArray = ls at hl ⊢
  have hl : lv_has ls 2 [(0, .int p0), (1, .int p1)] := hl
  refine lv_iload_n hx hb dX5_needPlace_0 rfl (lv_at hl 0 rfl) ?_
  refine lv_if_lt (tgt := 9) hx hb dX5_needPlace_1 (by decide) (fun c_1 => ?_) (fun c_1 => ?_)
  · exact absurd c_1 hc
  · refine lv_iload_n hx hb dX5_needPlace_4 rfl (lv_at hl 0 rfl) ?_
    refine lv_iload_n hx hb dX5_needPlace_5 rfl (lv_at hl 1 rfl) ?_
    refine lv_icmp_lt (tgt := 19) hx hb dX5_needPlace_6 (by decide) (fun c_2 => ?_) (fun c_2 => ?_)
    · exact W.vret hx hb hr (fun t ht _ => ⟨rfl, ht⟩) (fun q z => nomatch z) dX5_needPlace_19
    · exact absurd hd c_2
set_option maxHeartbeats 4000000 in
set_option maxRecDepth 100000 in
theorem t_needPlace {l : Launch} {s0 : State} {a0 : Array Value} {dC : Nat → ClassId} {dI : Nat → Nat → Nat} {cA : Nat → ClassId} (h : xC l s0 a0 dC dI cA) (p0 p1 : Int32) (hc : p0 < 0 ∨ ¬ p0 < p1) : xt_Met l yX5_needPlace [Cond.code yX5_needPlace cX5_needPlace 2 none] ({ frames := 7, cells := 1, slots := 6, locals := 100 } : Room) (xP s0 (dC, dI) [.int p0, .int p1] []) "java/lang/ArrayIndexOutOfBoundsException" 1 6 := by
  refine xt_ofW (cc := cX5_needPlace) (maxL := 2) (ret := none) (by decide) rfl ?_
  intro p e s m args below meth c s₁ B hml hout hv
  obtain ⟨rfl, hb0, hP⟩ := hv
  have hx := B.exec
  have hb := B.bytes
  have hr := B.returns
  have hown : s.vm.findClass RX5 = some m.cls := findClass_of_methodNamed B.named
  have hlocks := B.notSynchronized
  have hK := h.K hb0
  have hS : va_S (fun _ : Nat => False) s.heap s.heap [] := va_S.rf
  have hz : ∀ q : Nat, (fun _ : Nat => False) q → s0.heap.size ≤ q := fun _ z => z.elim
  have hl := lv_entry ([.int p0, .int p1]) (n := 2) (Nat.le_of_ble_eq_true rfl)
  rw [lg_entry_eq]
  generalize (lg_sl ([.int p0, .int p1]) ++ List.replicate (2 - (lg_sl ([.int p0, .int p1])).length) Slot.unset).toArray = ls at hl ⊢
  have hl : lv_has ls 2 [(0, .int p0), (1, .int p1)] := hl
  refine lv_iload_n hx hb dX5_needPlace_0 rfl (lv_at hl 0 rfl) ?_
  refine lv_if_lt (tgt := 9) hx hb dX5_needPlace_1 (by decide) (fun c_1 => ?_) (fun c_1 => ?_)
  · exact xt_throwS (own := RX5) (names := ["java/lang/IndexOutOfBoundsException", "java/lang/RuntimeException", "java/lang/Exception"]) hx hb h.1 hown (by decide) (by decide) (k_233 h hb0) (k_11 h hb0) (k_244 h hb0) (xo_145 h hb0) (hl.1.trans hml.symm) hout hlocks dX5_needPlace_9 dX5_needPlace_12 dX5_needPlace_13 dX5_needPlace_15 dX5_needPlace_18 (by decide) (by decide) (by decide) (by decide) (by decide) (by decide)
  · refine lv_iload_n hx hb dX5_needPlace_4 rfl (lv_at hl 0 rfl) ?_
    refine lv_iload_n hx hb dX5_needPlace_5 rfl (lv_at hl 1 rfl) ?_
    refine lv_icmp_lt (tgt := 19) hx hb dX5_needPlace_6 (by decide) (fun c_2 => ?_) (fun c_2 => ?_)
    · exact absurd hc (fun z => z.elim c_1 (fun y => y c_2))
    · exact xt_throwS (own := RX5) (names := ["java/lang/IndexOutOfBoundsException", "java/lang/RuntimeException", "java/lang/Exception"]) hx hb h.1 hown (by decide) (by decide) (k_233 h hb0) (k_11 h hb0) (k_244 h hb0) (xo_145 h hb0) (hl.1.trans hml.symm) hout hlocks dX5_needPlace_9 dX5_needPlace_12 dX5_needPlace_13 dX5_needPlace_15 dX5_needPlace_18 (by decide) (by decide) (by decide) (by decide) (by decide) (by decide)
set_option maxHeartbeats 4000000 in
set_option maxRecDepth 100000 in
theorem c_needDivisor {l : Launch} {s0 : State} {a0 : Array Value} {dC : Nat → ClassId} {dI : Nat → Nat → Nat} {cA : Nat → ClassId} (h : xC l s0 a0 dC dI cA) (p0 : Int64) (hc : ¬ p0 = 0) : Met l yX5_needDivisor [Cond.code yX5_needDivisor cX5_needDivisor 2 none] ({ frames := 0, cells := 0, slots := 0, locals := 0 } : Room) (xP s0 (dC, dI) [.long p0] []) (xR none) 0 0 (fun _ => False) := by
  refine Met.ofW (cc := cX5_needDivisor) (maxL := 2) (ret := none) (by decide) rfl ?_
  intro p e s m args below meth c s₁ B hml hv
  obtain ⟨rfl, hb0, hP⟩ := hv
  have hx := B.exec
  have hb := B.bytes
  have hr := B.returns
  have hown : s.vm.findClass RX5 = some m.cls := findClass_of_methodNamed B.named
  have hlocks := B.notSynchronized
  have hK := h.K hb0
  have hS : va_S (fun _ : Nat => False) s.heap s.heap [] := va_S.rf
  have hz : ∀ q : Nat, (fun _ : Nat => False) q → s0.heap.size ≤ q := fun _ z => z.elim
  have hl := lv_entry ([.long p0]) (n := 2) (Nat.le_of_ble_eq_true rfl)
  rw [lg_entry_eq]
  generalize (lg_sl ([.long p0]) ++ List.replicate (2 - (lg_sl ([.long p0])).length) Slot.unset).toArray = ls at hl ⊢
  have hl : lv_has ls 2 [(0, .long p0)] := hl
  refine lv_lload_n hx hb dX5_needDivisor_0 rfl (lv_at hl 0 rfl) ?_
  refine lv_lconst (v := 0) hx hb dX5_needDivisor_1 (by decide) ?_
  refine xlcmp hx hb dX5_needDivisor_2 (fun v hv => ?_)
  refine lv_if_ne (tgt := 16) hx hb dX5_needDivisor_3 (by decide) (fun c_1 => ?_) (fun c_1 => ?_)
  · exact W.vret hx hb hr (fun t ht _ => ⟨rfl, ht⟩) (fun q z => nomatch z) dX5_needDivisor_16
  · exact absurd (hv.mp c_1) hc
set_option maxHeartbeats 4000000 in
set_option maxRecDepth 100000 in
theorem t_needDivisor {l : Launch} {s0 : State} {a0 : Array Value} {dC : Nat → ClassId} {dI : Nat → Nat → Nat} {cA : Nat → ClassId} (h : xC l s0 a0 dC dI cA) (p0 : Int64) (hc : p0 = 0) : xt_Met l yX5_needDivisor [Cond.code yX5_needDivisor cX5_needDivisor 2 none] ({ frames := 6, cells := 1, slots := 6, locals := 100 } : Room) (xP s0 (dC, dI) [.long p0] []) "java/lang/ArithmeticException" 1 6 := by
  refine xt_ofW (cc := cX5_needDivisor) (maxL := 2) (ret := none) (by decide) rfl ?_
  intro p e s m args below meth c s₁ B hml hout hv
  obtain ⟨rfl, hb0, hP⟩ := hv
  have hx := B.exec
  have hb := B.bytes
  have hr := B.returns
  have hown : s.vm.findClass RX5 = some m.cls := findClass_of_methodNamed B.named
  have hlocks := B.notSynchronized
  have hK := h.K hb0
  have hS : va_S (fun _ : Nat => False) s.heap s.heap [] := va_S.rf
  have hz : ∀ q : Nat, (fun _ : Nat => False) q → s0.heap.size ≤ q := fun _ z => z.elim
  have hl := lv_entry ([.long p0]) (n := 2) (Nat.le_of_ble_eq_true rfl)
  rw [lg_entry_eq]
  generalize (lg_sl ([.long p0]) ++ List.replicate (2 - (lg_sl ([.long p0])).length) Slot.unset).toArray = ls at hl ⊢
  have hl : lv_has ls 2 [(0, .long p0)] := hl
  refine lv_lload_n hx hb dX5_needDivisor_0 rfl (lv_at hl 0 rfl) ?_
  refine lv_lconst (v := 0) hx hb dX5_needDivisor_1 (by decide) ?_
  refine xlcmp hx hb dX5_needDivisor_2 (fun v hv => ?_)
  refine lv_if_ne (tgt := 16) hx hb dX5_needDivisor_3 (by decide) (fun c_1 => ?_) (fun c_1 => ?_)
  · exact absurd (hv.mpr hc) c_1
  · exact xt_throwS (own := RX5) (names := ["java/lang/RuntimeException", "java/lang/Exception"]) hx hb h.1 hown (by decide) (by decide) (k_494 h hb0) (k_17 h hb0) (k_503 h hb0) (xo_135 h hb0) (hl.1.trans hml.symm) hout hlocks dX5_needDivisor_6 dX5_needDivisor_9 dX5_needDivisor_10 dX5_needDivisor_12 dX5_needDivisor_15 (by decide) (by decide) (by decide) (by decide) (by decide) (by decide)
