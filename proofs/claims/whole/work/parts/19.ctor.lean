/-! The constructors of the bench. -/
theorem k_91 {l : Launch} {s0 : State} {a0 : Array Value} {dC : Nat → ClassId} {dI : Nat → Nat → Nat} {cA : Nat → ClassId} {s : State} {args : Array Value} (h : xC l s0 a0 dC dI cA) (hb : xb s0 s) : (Cond.methodLinkNest RX5 25 yX1_init "FaultBench").before args s = true := va_Nw.use rfl (va_Nw.warmM hb.1 (va_Nw.of rfl (h.2.1 _ (List.mem_of_getElem? (i := 96) rfl))))
theorem xover {l : Launch} {s0 : State} {a0 : Array Value} {dC : Nat → ClassId} {dI : Nat → Nat → Nat} {cA : Nat → ClassId} {s : State} (h : xC l s0 a0 dC dI cA) (hb : xb s0 s) : ∃ comp c k, s.vm.findClass (FieldType.array .int).toString = some comp ∧ s.vm.classes[c]? = some k ∧ k.kind = .array comp (.array .int) ∧ s.vm.findClass ("[" ++ (FieldType.array .int).toString) = some c := by
  obtain ⟨comp, c, k, h1, h2, h3, h4⟩ := xq_over (h.2.1 (.arrayOver (.array .int)) (List.mem_of_getElem? (i := 80) rfl))
  obtain ⟨k', hk', he⟩ := hb.1.alike.2.2 _ _ h2
  exact ⟨comp, c, k', by rw [hb.1.alike.findClass]; exact h1, hk', by rw [he]; exact h3, by rw [hb.1.alike.findClass]; exact h4⟩
section XCN
variable {R : Room} {s : State} {args : Array Value}
theorem xCN {own host : String} {index n maxL mc ms : Nat} {y : MethodName} {bytes : ByteArray} {ret : Option FieldType} {rm : Room} (hcode : (Cond.code y bytes maxL ret).before args s = true) (hini : (Cond.initialized y.cls).before args s = true) (hl : (Cond.methodLinkNest own index y host).before args s = true)
    (hd : y.cls ≠ "java/lang/invoke/MethodHandle" ∧ y.cls ≠ "java/lang/invoke/VarHandle") (hn : (parseMethodDescriptor y.desc).map (fun d => d.parameters.length) = some n) (hrc : rm.cells = mc) (hrs : rm.slots = ms) (hR : rm.frames + 1 ≤ R.frames) (hR2 : 8 + (maxL + 11) + rm.locals ≤ R.locals) :
    va_CN R s args own index y host bytes maxL ret [.code y bytes maxL ret] rm mc ms n := by
  refine ⟨⟨hrc, hrs, hR, hR2, fun w hw a' U hW => ?_, List.mem_cons_self⟩, hcode, hini, hd, fun sig h => ?_, hl⟩
  · rw [List.mem_singleton] at hw
    rw [hw]
    exact xg_at hW rfl hcode
  · rw [h] at hn
    exact (Option.some.inj hn).symm
end XCN
/-- the first i lengths are 3 -/
def lz (i : Nat) : Nat → Int32 := fun j => if j < i then 3 else 0
theorem lz_0 : lz 0 = fun _ => 0 := by funext j; simp [lz]
theorem lz_s (i : Nat) : upd (lz i) i 3 = lz (i + 1) := by
  funext j
  by_cases h : j = i
  · simp [upd, lz, h]
  · by_cases g : j < i
    · simp [upd, lz, h, g, show j < i + 1 by omega]
    · simp [upd, lz, h, g, show ¬ j < i + 1 by omega]
/-- the grid's numbers, filled up to row i, place j -/
def gmx (i j : Nat) : Nat → Nat → Int32 := fun a b => if (a < i ∨ (a = i ∧ b < j)) ∧ b < 8 then 10 * nI a + nI b else 0
theorem gmx_0 : gmx 0 0 = fun _ _ => 0 := by funext a b; simp [gmx]
theorem gmx_s {i j : Nat} (hj : j < 8) : mset (gmx i j) i j (10 * nI i + nI j) = gmx i (j + 1) := by
  funext a b
  by_cases h1 : a = i
  · by_cases h2 : b = j
    · simp [mset, gmx, h1, h2, hj]
    · by_cases h3 : b < j
      · simp [mset, gmx, h1, h2, h3, show b < j + 1 by omega]
      · simp [mset, gmx, h1, h2, h3, show ¬ b < j + 1 by omega]
  · simp [mset, gmx, h1]
theorem gmx_e (i : Nat) : gmx i 8 = gmx (i + 1) 0 := by
  funext a b
  by_cases h1 : b < 8
  · by_cases h2 : a < i
    · simp [gmx, h1, h2, show a < i + 1 by omega]
    · by_cases h3 : a = i
      · simp [gmx, h1, h3]
      · simp [gmx, h1, h2, h3, show ¬ a < i + 1 by omega]
  · simp [gmx, h1]
theorem fz6 : FP.i2f 0 = 0 := by decide +kernel
theorem fz7 : FP.i2d 0 = 0 := by decide +kernel
theorem rz_0 : r0 (fun _ _ => 0) = fun _ => 0 := by funext i; rfl
theorem rz_1 : r1 (fun _ _ => 0) = fun _ => 0 := by funext i; rfl
theorem rz_2 : r2 (fun _ _ => 0) = fun _ => 0 := by funext i; rfl
theorem rz_3 : r3 (fun _ _ => 0) = fun _ => 0 := by funext i; rfl
theorem rz_4 : r4 (fun _ _ => 0) = fun _ => 0 := by funext i; rfl
theorem rz_5 : r5 (fun _ _ => 0) = fun _ => 0 := by funext i; rfl
theorem rz_6 : r6 (fun _ _ => 0) = fun _ => 0 := by funext i; exact fz6
theorem rz_7 : r7 (fun _ _ => 0) = fun _ => 0 := by funext i; exact fz7
set_option maxHeartbeats 4000000 in
set_option maxRecDepth 100000 in
theorem c_rowsInit {l : Launch} {s0 : State} {a0 : Array Value} {dC : Nat → ClassId} {dI : Nat → Nat → Nat} {cA : Nat → ClassId} (h : xC l s0 a0 dC dI cA) (ro : Nat) (sz : Nat)  : Met l yX4_init [Cond.code yX4_init cX4_init 2 none] ({ frames := 1, cells := 9, slots := 320, locals := 40 } : Room) (xPM s0 (dC, dI) [.ref ro] [] [(ro, .inr (4, [.null, .null, .null, .null, .null, .null, .null, .null, .null]))] sz) (xQM (dC, dI) (va_A [(ro, .inr (4, [.null, .null, .null, .null, .null, .null, .null, .null, .null]))] sz) (fun r w1 => ∃ b0 b1 b2 b3 b4 b5 b6 b7 b8 : Nat, r = none ∧ w1 = [(ro, .inr (4, [.ref b0, .ref b1, .ref b2, .ref b3, .ref b4, .ref b5, .ref b6, .ref b7, .ref b8])), (b0, .inl (cA 0, 8, .inl (lz 8))), (b1, .inl (cA 0, 39, .inl (r0 (fun _ _ => 0)))), (b2, .inl (cA 1, 39, .inr (.inl (r1 (fun _ _ => 0))))), (b3, .inl (cA 2, 39, .inl (r2 (fun _ _ => 0)))), (b4, .inl (cA 3, 39, .inl (r3 (fun _ _ => 0)))), (b5, .inl (cA 4, 39, .inl (r4 (fun _ _ => 0)))), (b6, .inl (cA 5, 39, .inl (r5 (fun _ _ => 0)))), (b7, .inl (cA 6, 39, .inr (.inr (.inl (r6 (fun _ _ => 0)))))), (b8, .inl (cA 7, 39, .inr (.inr (.inr (.inl (r7 (fun _ _ => 0)))))))])) 9 320 (va_A [(ro, .inr (4, [.null, .null, .null, .null, .null, .null, .null, .null, .null]))] sz) := by
  refine Met.ofW (cc := cX4_init) (maxL := 2) (ret := none) (by decide) rfl ?_
  intro p e s m args below meth c s₁ B hml hv
  obtain ⟨rfl, rfl, hb0, hPr, hP, hD0⟩ := hv
  have hx := B.exec
  have hb := B.bytes
  have hr := B.returns
  have hown : s.vm.findClass RX4 = some m.cls := findClass_of_methodNamed B.named
  have hlocks := B.notSynchronized
  have hK := h.K hb0
  have hin : meth.name = "<init>" := (name_of_methodNamed B.named B.method).1
  have hS : va_S (va_A [(ro, .inr (4, [.null, .null, .null, .null, .null, .null, .null, .null, .null]))] s.heap.size) s.heap s.heap [] := va_S.rf
  obtain ⟨A, hAe, hD, hA, hz, hRo, hwk, hnR⟩ := xM_start hb0 hPr hP hD0
  rw [hAe] at hS ⊢
  have hl := lv_entry ([.ref ro]) (n := 2) (Nat.le_of_ble_eq_true rfl)
  rw [lg_entry_eq]
  generalize (lg_sl ([.ref ro]) ++ List.replicate (2 - (lg_sl ([.ref ro])).length) Slot.unset).toArray = ls at hl ⊢
  have hl : lv_has ls 2 [(0, .ref ro)] := hl
  refine lv_aload_n hx hb dX4_init_0 rfl (lv_at hl 0 rfl) ?_
  refine W.objInit hx hb hown (k_31 h hb0) (k_24 h hb0) (k_25 h hb0) rfl (hl.1.trans hml.symm) rfl dX4_init_1 (Nat.le_of_ble_eq_true rfl) (Nat.le_of_ble_eq_true rfl) ?_
  show W _ _ _ _ _ _ _ _ _ _ _ _ _ _ _ (F0 m 4 ls [])
  refine lv_aload_n hx hb dX4_init_4 rfl (lv_at hl 0 rfl) ?_
  refine lv_bipush (v := 8) hx hb dX4_init_5 (by decide) ?_
  refine va_newa (atype := .int) (ty := .int) (N' := 8) (a0 := (8, .inl (fun _ => 0))) hx hb (k_60 h hb0) rfl hK hP hD hS hA (fun _ => rfl) (by decide) (by decide) (by decide) (Nat.le_of_ble_eq_true rfl) (Nat.le_of_ble_eq_true rfl) dX4_init_7 (fun b0 cN H hKn hP hD hS => ?_)
  obtain rfl : cN = cA 0 := xRA_eq (hKn.2 10 _ rfl).2 (hK.2 0 _ rfl).2
  clear hKn
  have hP : va_P (dC, dI) vwCl [(ro, .inr (4, [.null, .null, .null, .null, .null, .null, .null, .null, .null])), (b0, .inl (cA 0, 8, .inl (fun _ => 0)))] H := hP
  have hD : va_D A [(ro, .inr (4, [.null, .null, .null, .null, .null, .null, .null, .null, .null])), (b0, .inl (cA 0, 8, .inl (fun _ => 0)))] := hD
  refine va_putF (D := (dC, dI)) (ci := 4) (v := .ref b0) (ty := .array .int) (C := RX4) (T := TX4) (N := 9) hx hb (ly_4 h hb0) (fun _ z => z) tyX4 tyX4_ok nmX4 hown hK hP hD hS 0 rfl rfl 0 (by decide) (k_32 h hb0) (fun _ z => z) rfl hin rfl (by decide +kernel) rfl rfl (Nat.le_of_ble_eq_true rfl) dX4_init_9 (fun H locs hP hD hS => ?_)
  have hP : va_P (dC, dI) vwCl [(ro, .inr (4, [.ref b0, .null, .null, .null, .null, .null, .null, .null, .null])), (b0, .inl (cA 0, 8, .inl (fun _ => 0)))] H := hP
  have hD : va_D A [(ro, .inr (4, [.ref b0, .null, .null, .null, .null, .null, .null, .null, .null])), (b0, .inl (cA 0, 8, .inl (fun _ => 0)))] := hD
  refine lv_aload_n hx hb dX4_init_12 rfl (lv_at hl 0 rfl) ?_
  refine lv_bipush (v := 39) hx hb dX4_init_13 (by decide) ?_
  refine va_newa (atype := .int) (ty := .int) (N' := 39) (a0 := (39, .inl (fun _ => 0))) hx hb (k_60 h hb0) rfl hK hP hD hS hA (fun _ => rfl) (by decide) (by decide) (by decide) (Nat.le_of_ble_eq_true rfl) (Nat.le_of_ble_eq_true rfl) dX4_init_15 (fun b1 cN H hKn hP hD hS => ?_)
  obtain rfl : cN = cA 0 := xRA_eq (hKn.2 10 _ rfl).2 (hK.2 0 _ rfl).2
  clear hKn
  have hP : va_P (dC, dI) vwCl [(ro, .inr (4, [.ref b0, .null, .null, .null, .null, .null, .null, .null, .null])), (b0, .inl (cA 0, 8, .inl (fun _ => 0))), (b1, .inl (cA 0, 39, .inl (fun _ => 0)))] H := hP
  have hD : va_D A [(ro, .inr (4, [.ref b0, .null, .null, .null, .null, .null, .null, .null, .null])), (b0, .inl (cA 0, 8, .inl (fun _ => 0))), (b1, .inl (cA 0, 39, .inl (fun _ => 0)))] := hD
  refine va_putF (D := (dC, dI)) (ci := 4) (v := .ref b1) (ty := .array .int) (C := RX4) (T := TX4) (N := 9) hx hb (ly_4 h hb0) (fun _ z => z) tyX4 tyX4_ok nmX4 hown hK hP hD hS 0 rfl rfl 1 (by decide) (k_33 h hb0) (fun _ z => z) rfl hin rfl (by decide +kernel) rfl rfl (Nat.le_of_ble_eq_true rfl) dX4_init_17 (fun H locs hP hD hS => ?_)
  have hP : va_P (dC, dI) vwCl [(ro, .inr (4, [.ref b0, .ref b1, .null, .null, .null, .null, .null, .null, .null])), (b0, .inl (cA 0, 8, .inl (fun _ => 0))), (b1, .inl (cA 0, 39, .inl (fun _ => 0)))] H := hP
  have hD : va_D A [(ro, .inr (4, [.ref b0, .ref b1, .null, .null, .null, .null, .null, .null, .null])), (b0, .inl (cA 0, 8, .inl (fun _ => 0))), (b1, .inl (cA 0, 39, .inl (fun _ => 0)))] := hD
  refine lv_aload_n hx hb dX4_init_20 rfl (lv_at hl 0 rfl) ?_
  refine lv_bipush (v := 39) hx hb dX4_init_21 (by decide) ?_
  refine va_newa (atype := .long) (ty := .long) (N' := 39) (a0 := (39, .inr (.inl (fun _ => 0)))) hx hb (k_61 h hb0) rfl hK hP hD hS hA (fun _ => rfl) (by decide) (by decide) (by decide) (Nat.le_of_ble_eq_true rfl) (Nat.le_of_ble_eq_true rfl) dX4_init_23 (fun b2 cN H hKn hP hD hS => ?_)
  obtain rfl : cN = cA 1 := xRA_eq (hKn.2 10 _ rfl).2 (hK.2 1 _ rfl).2
  clear hKn
  have hP : va_P (dC, dI) vwCl [(ro, .inr (4, [.ref b0, .ref b1, .null, .null, .null, .null, .null, .null, .null])), (b0, .inl (cA 0, 8, .inl (fun _ => 0))), (b1, .inl (cA 0, 39, .inl (fun _ => 0))), (b2, .inl (cA 1, 39, .inr (.inl (fun _ => 0))))] H := hP
  have hD : va_D A [(ro, .inr (4, [.ref b0, .ref b1, .null, .null, .null, .null, .null, .null, .null])), (b0, .inl (cA 0, 8, .inl (fun _ => 0))), (b1, .inl (cA 0, 39, .inl (fun _ => 0))), (b2, .inl (cA 1, 39, .inr (.inl (fun _ => 0))))] := hD
  refine va_putF (D := (dC, dI)) (ci := 4) (v := .ref b2) (ty := .array .long) (C := RX4) (T := TX4) (N := 9) hx hb (ly_4 h hb0) (fun _ z => z) tyX4 tyX4_ok nmX4 hown hK hP hD hS 0 rfl rfl 2 (by decide) (k_34 h hb0) (fun _ z => z) rfl hin rfl (by decide +kernel) rfl rfl (Nat.le_of_ble_eq_true rfl) dX4_init_25 (fun H locs hP hD hS => ?_)
  have hP : va_P (dC, dI) vwCl [(ro, .inr (4, [.ref b0, .ref b1, .ref b2, .null, .null, .null, .null, .null, .null])), (b0, .inl (cA 0, 8, .inl (fun _ => 0))), (b1, .inl (cA 0, 39, .inl (fun _ => 0))), (b2, .inl (cA 1, 39, .inr (.inl (fun _ => 0))))] H := hP
  have hD : va_D A [(ro, .inr (4, [.ref b0, .ref b1, .ref b2, .null, .null, .null, .null, .null, .null])), (b0, .inl (cA 0, 8, .inl (fun _ => 0))), (b1, .inl (cA 0, 39, .inl (fun _ => 0))), (b2, .inl (cA 1, 39, .inr (.inl (fun _ => 0))))] := hD
  refine lv_aload_n hx hb dX4_init_28 rfl (lv_at hl 0 rfl) ?_
  refine lv_bipush (v := 39) hx hb dX4_init_29 (by decide) ?_
  refine va_newa (atype := .short) (ty := .short) (N' := 39) (a0 := (39, .inl (fun _ => 0))) hx hb (k_62 h hb0) rfl hK hP hD hS hA (fun _ => rfl) (by decide) (by decide) (by decide) (Nat.le_of_ble_eq_true rfl) (Nat.le_of_ble_eq_true rfl) dX4_init_31 (fun b3 cN H hKn hP hD hS => ?_)
  obtain rfl : cN = cA 2 := xRA_eq (hKn.2 10 _ rfl).2 (hK.2 2 _ rfl).2
  clear hKn
  have hP : va_P (dC, dI) vwCl [(ro, .inr (4, [.ref b0, .ref b1, .ref b2, .null, .null, .null, .null, .null, .null])), (b0, .inl (cA 0, 8, .inl (fun _ => 0))), (b1, .inl (cA 0, 39, .inl (fun _ => 0))), (b2, .inl (cA 1, 39, .inr (.inl (fun _ => 0)))), (b3, .inl (cA 2, 39, .inl (fun _ => 0)))] H := hP
  have hD : va_D A [(ro, .inr (4, [.ref b0, .ref b1, .ref b2, .null, .null, .null, .null, .null, .null])), (b0, .inl (cA 0, 8, .inl (fun _ => 0))), (b1, .inl (cA 0, 39, .inl (fun _ => 0))), (b2, .inl (cA 1, 39, .inr (.inl (fun _ => 0)))), (b3, .inl (cA 2, 39, .inl (fun _ => 0)))] := hD
  refine va_putF (D := (dC, dI)) (ci := 4) (v := .ref b3) (ty := .array .short) (C := RX4) (T := TX4) (N := 9) hx hb (ly_4 h hb0) (fun _ z => z) tyX4 tyX4_ok nmX4 hown hK hP hD hS 0 rfl rfl 3 (by decide) (k_35 h hb0) (fun _ z => z) rfl hin rfl (by decide +kernel) rfl rfl (Nat.le_of_ble_eq_true rfl) dX4_init_33 (fun H locs hP hD hS => ?_)
  have hP : va_P (dC, dI) vwCl [(ro, .inr (4, [.ref b0, .ref b1, .ref b2, .ref b3, .null, .null, .null, .null, .null])), (b0, .inl (cA 0, 8, .inl (fun _ => 0))), (b1, .inl (cA 0, 39, .inl (fun _ => 0))), (b2, .inl (cA 1, 39, .inr (.inl (fun _ => 0)))), (b3, .inl (cA 2, 39, .inl (fun _ => 0)))] H := hP
  have hD : va_D A [(ro, .inr (4, [.ref b0, .ref b1, .ref b2, .ref b3, .null, .null, .null, .null, .null])), (b0, .inl (cA 0, 8, .inl (fun _ => 0))), (b1, .inl (cA 0, 39, .inl (fun _ => 0))), (b2, .inl (cA 1, 39, .inr (.inl (fun _ => 0)))), (b3, .inl (cA 2, 39, .inl (fun _ => 0)))] := hD
  refine lv_aload_n hx hb dX4_init_36 rfl (lv_at hl 0 rfl) ?_
  refine lv_bipush (v := 39) hx hb dX4_init_37 (by decide) ?_
  refine va_newa (atype := .byte) (ty := .byte) (N' := 39) (a0 := (39, .inl (fun _ => 0))) hx hb (k_63 h hb0) rfl hK hP hD hS hA (fun _ => rfl) (by decide) (by decide) (by decide) (Nat.le_of_ble_eq_true rfl) (Nat.le_of_ble_eq_true rfl) dX4_init_39 (fun b4 cN H hKn hP hD hS => ?_)
  obtain rfl : cN = cA 3 := xRA_eq (hKn.2 10 _ rfl).2 (hK.2 3 _ rfl).2
  clear hKn
  have hP : va_P (dC, dI) vwCl [(ro, .inr (4, [.ref b0, .ref b1, .ref b2, .ref b3, .null, .null, .null, .null, .null])), (b0, .inl (cA 0, 8, .inl (fun _ => 0))), (b1, .inl (cA 0, 39, .inl (fun _ => 0))), (b2, .inl (cA 1, 39, .inr (.inl (fun _ => 0)))), (b3, .inl (cA 2, 39, .inl (fun _ => 0))), (b4, .inl (cA 3, 39, .inl (fun _ => 0)))] H := hP
  have hD : va_D A [(ro, .inr (4, [.ref b0, .ref b1, .ref b2, .ref b3, .null, .null, .null, .null, .null])), (b0, .inl (cA 0, 8, .inl (fun _ => 0))), (b1, .inl (cA 0, 39, .inl (fun _ => 0))), (b2, .inl (cA 1, 39, .inr (.inl (fun _ => 0)))), (b3, .inl (cA 2, 39, .inl (fun _ => 0))), (b4, .inl (cA 3, 39, .inl (fun _ => 0)))] := hD
  refine va_putF (D := (dC, dI)) (ci := 4) (v := .ref b4) (ty := .array .byte) (C := RX4) (T := TX4) (N := 9) hx hb (ly_4 h hb0) (fun _ z => z) tyX4 tyX4_ok nmX4 hown hK hP hD hS 0 rfl rfl 4 (by decide) (k_36 h hb0) (fun _ z => z) rfl hin rfl (by decide +kernel) rfl rfl (Nat.le_of_ble_eq_true rfl) dX4_init_41 (fun H locs hP hD hS => ?_)
  have hP : va_P (dC, dI) vwCl [(ro, .inr (4, [.ref b0, .ref b1, .ref b2, .ref b3, .ref b4, .null, .null, .null, .null])), (b0, .inl (cA 0, 8, .inl (fun _ => 0))), (b1, .inl (cA 0, 39, .inl (fun _ => 0))), (b2, .inl (cA 1, 39, .inr (.inl (fun _ => 0)))), (b3, .inl (cA 2, 39, .inl (fun _ => 0))), (b4, .inl (cA 3, 39, .inl (fun _ => 0)))] H := hP
  have hD : va_D A [(ro, .inr (4, [.ref b0, .ref b1, .ref b2, .ref b3, .ref b4, .null, .null, .null, .null])), (b0, .inl (cA 0, 8, .inl (fun _ => 0))), (b1, .inl (cA 0, 39, .inl (fun _ => 0))), (b2, .inl (cA 1, 39, .inr (.inl (fun _ => 0)))), (b3, .inl (cA 2, 39, .inl (fun _ => 0))), (b4, .inl (cA 3, 39, .inl (fun _ => 0)))] := hD
  refine lv_aload_n hx hb dX4_init_44 rfl (lv_at hl 0 rfl) ?_
  refine lv_bipush (v := 39) hx hb dX4_init_45 (by decide) ?_
  refine va_newa (atype := .char) (ty := .char) (N' := 39) (a0 := (39, .inl (fun _ => 0))) hx hb (k_64 h hb0) rfl hK hP hD hS hA (fun _ => rfl) (by decide) (by decide) (by decide) (Nat.le_of_ble_eq_true rfl) (Nat.le_of_ble_eq_true rfl) dX4_init_47 (fun b5 cN H hKn hP hD hS => ?_)
  obtain rfl : cN = cA 4 := xRA_eq (hKn.2 10 _ rfl).2 (hK.2 4 _ rfl).2
  clear hKn
  have hP : va_P (dC, dI) vwCl [(ro, .inr (4, [.ref b0, .ref b1, .ref b2, .ref b3, .ref b4, .null, .null, .null, .null])), (b0, .inl (cA 0, 8, .inl (fun _ => 0))), (b1, .inl (cA 0, 39, .inl (fun _ => 0))), (b2, .inl (cA 1, 39, .inr (.inl (fun _ => 0)))), (b3, .inl (cA 2, 39, .inl (fun _ => 0))), (b4, .inl (cA 3, 39, .inl (fun _ => 0))), (b5, .inl (cA 4, 39, .inl (fun _ => 0)))] H := hP
  have hD : va_D A [(ro, .inr (4, [.ref b0, .ref b1, .ref b2, .ref b3, .ref b4, .null, .null, .null, .null])), (b0, .inl (cA 0, 8, .inl (fun _ => 0))), (b1, .inl (cA 0, 39, .inl (fun _ => 0))), (b2, .inl (cA 1, 39, .inr (.inl (fun _ => 0)))), (b3, .inl (cA 2, 39, .inl (fun _ => 0))), (b4, .inl (cA 3, 39, .inl (fun _ => 0))), (b5, .inl (cA 4, 39, .inl (fun _ => 0)))] := hD
  refine va_putF (D := (dC, dI)) (ci := 4) (v := .ref b5) (ty := .array .char) (C := RX4) (T := TX4) (N := 9) hx hb (ly_4 h hb0) (fun _ z => z) tyX4 tyX4_ok nmX4 hown hK hP hD hS 0 rfl rfl 5 (by decide) (k_37 h hb0) (fun _ z => z) rfl hin rfl (by decide +kernel) rfl rfl (Nat.le_of_ble_eq_true rfl) dX4_init_49 (fun H locs hP hD hS => ?_)
  have hP : va_P (dC, dI) vwCl [(ro, .inr (4, [.ref b0, .ref b1, .ref b2, .ref b3, .ref b4, .ref b5, .null, .null, .null])), (b0, .inl (cA 0, 8, .inl (fun _ => 0))), (b1, .inl (cA 0, 39, .inl (fun _ => 0))), (b2, .inl (cA 1, 39, .inr (.inl (fun _ => 0)))), (b3, .inl (cA 2, 39, .inl (fun _ => 0))), (b4, .inl (cA 3, 39, .inl (fun _ => 0))), (b5, .inl (cA 4, 39, .inl (fun _ => 0)))] H := hP
  have hD : va_D A [(ro, .inr (4, [.ref b0, .ref b1, .ref b2, .ref b3, .ref b4, .ref b5, .null, .null, .null])), (b0, .inl (cA 0, 8, .inl (fun _ => 0))), (b1, .inl (cA 0, 39, .inl (fun _ => 0))), (b2, .inl (cA 1, 39, .inr (.inl (fun _ => 0)))), (b3, .inl (cA 2, 39, .inl (fun _ => 0))), (b4, .inl (cA 3, 39, .inl (fun _ => 0))), (b5, .inl (cA 4, 39, .inl (fun _ => 0)))] := hD
  refine lv_aload_n hx hb dX4_init_52 rfl (lv_at hl 0 rfl) ?_
  refine lv_bipush (v := 39) hx hb dX4_init_53 (by decide) ?_
  refine va_newa (atype := .boolean) (ty := .boolean) (N' := 39) (a0 := (39, .inl (fun _ => 0))) hx hb (k_65 h hb0) rfl hK hP hD hS hA (fun _ => rfl) (by decide) (by decide) (by decide) (Nat.le_of_ble_eq_true rfl) (Nat.le_of_ble_eq_true rfl) dX4_init_55 (fun b6 cN H hKn hP hD hS => ?_)
  obtain rfl : cN = cA 5 := xRA_eq (hKn.2 10 _ rfl).2 (hK.2 5 _ rfl).2
  clear hKn
  have hP : va_P (dC, dI) vwCl [(ro, .inr (4, [.ref b0, .ref b1, .ref b2, .ref b3, .ref b4, .ref b5, .null, .null, .null])), (b0, .inl (cA 0, 8, .inl (fun _ => 0))), (b1, .inl (cA 0, 39, .inl (fun _ => 0))), (b2, .inl (cA 1, 39, .inr (.inl (fun _ => 0)))), (b3, .inl (cA 2, 39, .inl (fun _ => 0))), (b4, .inl (cA 3, 39, .inl (fun _ => 0))), (b5, .inl (cA 4, 39, .inl (fun _ => 0))), (b6, .inl (cA 5, 39, .inl (fun _ => 0)))] H := hP
  have hD : va_D A [(ro, .inr (4, [.ref b0, .ref b1, .ref b2, .ref b3, .ref b4, .ref b5, .null, .null, .null])), (b0, .inl (cA 0, 8, .inl (fun _ => 0))), (b1, .inl (cA 0, 39, .inl (fun _ => 0))), (b2, .inl (cA 1, 39, .inr (.inl (fun _ => 0)))), (b3, .inl (cA 2, 39, .inl (fun _ => 0))), (b4, .inl (cA 3, 39, .inl (fun _ => 0))), (b5, .inl (cA 4, 39, .inl (fun _ => 0))), (b6, .inl (cA 5, 39, .inl (fun _ => 0)))] := hD
  refine va_putF (D := (dC, dI)) (ci := 4) (v := .ref b6) (ty := .array .boolean) (C := RX4) (T := TX4) (N := 9) hx hb (ly_4 h hb0) (fun _ z => z) tyX4 tyX4_ok nmX4 hown hK hP hD hS 0 rfl rfl 6 (by decide) (k_38 h hb0) (fun _ z => z) rfl hin rfl (by decide +kernel) rfl rfl (Nat.le_of_ble_eq_true rfl) dX4_init_57 (fun H locs hP hD hS => ?_)
  have hP : va_P (dC, dI) vwCl [(ro, .inr (4, [.ref b0, .ref b1, .ref b2, .ref b3, .ref b4, .ref b5, .ref b6, .null, .null])), (b0, .inl (cA 0, 8, .inl (fun _ => 0))), (b1, .inl (cA 0, 39, .inl (fun _ => 0))), (b2, .inl (cA 1, 39, .inr (.inl (fun _ => 0)))), (b3, .inl (cA 2, 39, .inl (fun _ => 0))), (b4, .inl (cA 3, 39, .inl (fun _ => 0))), (b5, .inl (cA 4, 39, .inl (fun _ => 0))), (b6, .inl (cA 5, 39, .inl (fun _ => 0)))] H := hP
  have hD : va_D A [(ro, .inr (4, [.ref b0, .ref b1, .ref b2, .ref b3, .ref b4, .ref b5, .ref b6, .null, .null])), (b0, .inl (cA 0, 8, .inl (fun _ => 0))), (b1, .inl (cA 0, 39, .inl (fun _ => 0))), (b2, .inl (cA 1, 39, .inr (.inl (fun _ => 0)))), (b3, .inl (cA 2, 39, .inl (fun _ => 0))), (b4, .inl (cA 3, 39, .inl (fun _ => 0))), (b5, .inl (cA 4, 39, .inl (fun _ => 0))), (b6, .inl (cA 5, 39, .inl (fun _ => 0)))] := hD
  refine lv_aload_n hx hb dX4_init_60 rfl (lv_at hl 0 rfl) ?_
  refine lv_bipush (v := 39) hx hb dX4_init_61 (by decide) ?_
  refine va_newa (atype := .float) (ty := .float) (N' := 39) (a0 := (39, .inr (.inr (.inl (fun _ => 0))))) hx hb (k_66 h hb0) rfl hK hP hD hS hA (fun _ => rfl) (by decide) (by decide) (by decide) (Nat.le_of_ble_eq_true rfl) (Nat.le_of_ble_eq_true rfl) dX4_init_63 (fun b7 cN H hKn hP hD hS => ?_)
  obtain rfl : cN = cA 6 := xRA_eq (hKn.2 10 _ rfl).2 (hK.2 6 _ rfl).2
  clear hKn
  have hP : va_P (dC, dI) vwCl [(ro, .inr (4, [.ref b0, .ref b1, .ref b2, .ref b3, .ref b4, .ref b5, .ref b6, .null, .null])), (b0, .inl (cA 0, 8, .inl (fun _ => 0))), (b1, .inl (cA 0, 39, .inl (fun _ => 0))), (b2, .inl (cA 1, 39, .inr (.inl (fun _ => 0)))), (b3, .inl (cA 2, 39, .inl (fun _ => 0))), (b4, .inl (cA 3, 39, .inl (fun _ => 0))), (b5, .inl (cA 4, 39, .inl (fun _ => 0))), (b6, .inl (cA 5, 39, .inl (fun _ => 0))), (b7, .inl (cA 6, 39, .inr (.inr (.inl (fun _ => 0)))))] H := hP
  have hD : va_D A [(ro, .inr (4, [.ref b0, .ref b1, .ref b2, .ref b3, .ref b4, .ref b5, .ref b6, .null, .null])), (b0, .inl (cA 0, 8, .inl (fun _ => 0))), (b1, .inl (cA 0, 39, .inl (fun _ => 0))), (b2, .inl (cA 1, 39, .inr (.inl (fun _ => 0)))), (b3, .inl (cA 2, 39, .inl (fun _ => 0))), (b4, .inl (cA 3, 39, .inl (fun _ => 0))), (b5, .inl (cA 4, 39, .inl (fun _ => 0))), (b6, .inl (cA 5, 39, .inl (fun _ => 0))), (b7, .inl (cA 6, 39, .inr (.inr (.inl (fun _ => 0)))))] := hD
  refine va_putF (D := (dC, dI)) (ci := 4) (v := .ref b7) (ty := .array .float) (C := RX4) (T := TX4) (N := 9) hx hb (ly_4 h hb0) (fun _ z => z) tyX4 tyX4_ok nmX4 hown hK hP hD hS 0 rfl rfl 7 (by decide) (k_39 h hb0) (fun _ z => z) rfl hin rfl (by decide +kernel) rfl rfl (Nat.le_of_ble_eq_true rfl) dX4_init_65 (fun H locs hP hD hS => ?_)
  have hP : va_P (dC, dI) vwCl [(ro, .inr (4, [.ref b0, .ref b1, .ref b2, .ref b3, .ref b4, .ref b5, .ref b6, .ref b7, .null])), (b0, .inl (cA 0, 8, .inl (fun _ => 0))), (b1, .inl (cA 0, 39, .inl (fun _ => 0))), (b2, .inl (cA 1, 39, .inr (.inl (fun _ => 0)))), (b3, .inl (cA 2, 39, .inl (fun _ => 0))), (b4, .inl (cA 3, 39, .inl (fun _ => 0))), (b5, .inl (cA 4, 39, .inl (fun _ => 0))), (b6, .inl (cA 5, 39, .inl (fun _ => 0))), (b7, .inl (cA 6, 39, .inr (.inr (.inl (fun _ => 0)))))] H := hP
  have hD : va_D A [(ro, .inr (4, [.ref b0, .ref b1, .ref b2, .ref b3, .ref b4, .ref b5, .ref b6, .ref b7, .null])), (b0, .inl (cA 0, 8, .inl (fun _ => 0))), (b1, .inl (cA 0, 39, .inl (fun _ => 0))), (b2, .inl (cA 1, 39, .inr (.inl (fun _ => 0)))), (b3, .inl (cA 2, 39, .inl (fun _ => 0))), (b4, .inl (cA 3, 39, .inl (fun _ => 0))), (b5, .inl (cA 4, 39, .inl (fun _ => 0))), (b6, .inl (cA 5, 39, .inl (fun _ => 0))), (b7, .inl (cA 6, 39, .inr (.inr (.inl (fun _ => 0)))))] := hD
  refine lv_aload_n hx hb dX4_init_68 rfl (lv_at hl 0 rfl) ?_
  refine lv_bipush (v := 39) hx hb dX4_init_69 (by decide) ?_
  refine va_newa (atype := .double) (ty := .double) (N' := 39) (a0 := (39, .inr (.inr (.inr (.inl (fun _ => 0)))))) hx hb (k_67 h hb0) rfl hK hP hD hS hA (fun _ => rfl) (by decide) (by decide) (by decide) (Nat.le_of_ble_eq_true rfl) (Nat.le_of_ble_eq_true rfl) dX4_init_71 (fun b8 cN H hKn hP hD hS => ?_)
  obtain rfl : cN = cA 7 := xRA_eq (hKn.2 10 _ rfl).2 (hK.2 7 _ rfl).2
  clear hKn
  have hP : va_P (dC, dI) vwCl [(ro, .inr (4, [.ref b0, .ref b1, .ref b2, .ref b3, .ref b4, .ref b5, .ref b6, .ref b7, .null])), (b0, .inl (cA 0, 8, .inl (fun _ => 0))), (b1, .inl (cA 0, 39, .inl (fun _ => 0))), (b2, .inl (cA 1, 39, .inr (.inl (fun _ => 0)))), (b3, .inl (cA 2, 39, .inl (fun _ => 0))), (b4, .inl (cA 3, 39, .inl (fun _ => 0))), (b5, .inl (cA 4, 39, .inl (fun _ => 0))), (b6, .inl (cA 5, 39, .inl (fun _ => 0))), (b7, .inl (cA 6, 39, .inr (.inr (.inl (fun _ => 0))))), (b8, .inl (cA 7, 39, .inr (.inr (.inr (.inl (fun _ => 0))))))] H := hP
  have hD : va_D A [(ro, .inr (4, [.ref b0, .ref b1, .ref b2, .ref b3, .ref b4, .ref b5, .ref b6, .ref b7, .null])), (b0, .inl (cA 0, 8, .inl (fun _ => 0))), (b1, .inl (cA 0, 39, .inl (fun _ => 0))), (b2, .inl (cA 1, 39, .inr (.inl (fun _ => 0)))), (b3, .inl (cA 2, 39, .inl (fun _ => 0))), (b4, .inl (cA 3, 39, .inl (fun _ => 0))), (b5, .inl (cA 4, 39, .inl (fun _ => 0))), (b6, .inl (cA 5, 39, .inl (fun _ => 0))), (b7, .inl (cA 6, 39, .inr (.inr (.inl (fun _ => 0))))), (b8, .inl (cA 7, 39, .inr (.inr (.inr (.inl (fun _ => 0))))))] := hD
  refine va_putF (D := (dC, dI)) (ci := 4) (v := .ref b8) (ty := .array .double) (C := RX4) (T := TX4) (N := 9) hx hb (ly_4 h hb0) (fun _ z => z) tyX4 tyX4_ok nmX4 hown hK hP hD hS 0 rfl rfl 8 (by decide) (k_40 h hb0) (fun _ z => z) rfl hin rfl (by decide +kernel) rfl rfl (Nat.le_of_ble_eq_true rfl) dX4_init_73 (fun H locs hP hD hS => ?_)
  have hP : va_P (dC, dI) vwCl [(ro, .inr (4, [.ref b0, .ref b1, .ref b2, .ref b3, .ref b4, .ref b5, .ref b6, .ref b7, .ref b8])), (b0, .inl (cA 0, 8, .inl (fun _ => 0))), (b1, .inl (cA 0, 39, .inl (fun _ => 0))), (b2, .inl (cA 1, 39, .inr (.inl (fun _ => 0)))), (b3, .inl (cA 2, 39, .inl (fun _ => 0))), (b4, .inl (cA 3, 39, .inl (fun _ => 0))), (b5, .inl (cA 4, 39, .inl (fun _ => 0))), (b6, .inl (cA 5, 39, .inl (fun _ => 0))), (b7, .inl (cA 6, 39, .inr (.inr (.inl (fun _ => 0))))), (b8, .inl (cA 7, 39, .inr (.inr (.inr (.inl (fun _ => 0))))))] H := hP
  have hD : va_D A [(ro, .inr (4, [.ref b0, .ref b1, .ref b2, .ref b3, .ref b4, .ref b5, .ref b6, .ref b7, .ref b8])), (b0, .inl (cA 0, 8, .inl (fun _ => 0))), (b1, .inl (cA 0, 39, .inl (fun _ => 0))), (b2, .inl (cA 1, 39, .inr (.inl (fun _ => 0)))), (b3, .inl (cA 2, 39, .inl (fun _ => 0))), (b4, .inl (cA 3, 39, .inl (fun _ => 0))), (b5, .inl (cA 4, 39, .inl (fun _ => 0))), (b6, .inl (cA 5, 39, .inl (fun _ => 0))), (b7, .inl (cA 6, 39, .inr (.inr (.inl (fun _ => 0))))), (b8, .inl (cA 7, 39, .inr (.inr (.inr (.inl (fun _ => 0))))))] := hD
  refine lv_iconst (v := 0) hx hb dX4_init_76 (by decide) ?_
  refine lv_istore_n (lv' := [(1, .int 0), (0, .ref ro)]) hx hb dX4_init_77 rfl hl (by decide) rfl (fun ls hl => ?_)
  refine xloop (σ := Array Slot × Heap × List Loc) (fun i z => lv_has z.1 2 [(1, .int (nI i)), (0, .ref ro)] ∧ va_P (dC, dI) vwCl [(ro, .inr (4, [.ref b0, .ref b1, .ref b2, .ref b3, .ref b4, .ref b5, .ref b6, .ref b7, .ref b8])), (b0, .inl (cA 0, 8, .inl (lz i))), (b1, .inl (cA 0, 39, .inl (fun _ => 0))), (b2, .inl (cA 1, 39, .inr (.inl (fun _ => 0)))), (b3, .inl (cA 2, 39, .inl (fun _ => 0))), (b4, .inl (cA 3, 39, .inl (fun _ => 0))), (b5, .inl (cA 4, 39, .inl (fun _ => 0))), (b6, .inl (cA 5, 39, .inl (fun _ => 0))), (b7, .inl (cA 6, 39, .inr (.inr (.inl (fun _ => 0))))), (b8, .inl (cA 7, 39, .inr (.inr (.inr (.inl (fun _ => 0))))))] z.2.1 ∧ va_D A [(ro, .inr (4, [.ref b0, .ref b1, .ref b2, .ref b3, .ref b4, .ref b5, .ref b6, .ref b7, .ref b8])), (b0, .inl (cA 0, 8, .inl (lz i))), (b1, .inl (cA 0, 39, .inl (fun _ => 0))), (b2, .inl (cA 1, 39, .inr (.inl (fun _ => 0)))), (b3, .inl (cA 2, 39, .inl (fun _ => 0))), (b4, .inl (cA 3, 39, .inl (fun _ => 0))), (b5, .inl (cA 4, 39, .inl (fun _ => 0))), (b6, .inl (cA 5, 39, .inl (fun _ => 0))), (b7, .inl (cA 6, 39, .inr (.inr (.inl (fun _ => 0))))), (b8, .inl (cA 7, 39, .inr (.inr (.inr (.inl (fun _ => 0))))))] ∧ va_S A s.heap z.2.1 z.2.2) (fun z => W p l e _ s m _ below meth c z.2.1 z.2.2 _ _ _ (F0 m 78 z.1 [])) 8 ?_ ?_ (ls, _, _) ⟨hl, by rw [lz_0]; exact hP, by rw [lz_0]; exact hD, hS⟩
  · rintro i ⟨ls, H, locs⟩ hi ⟨hl, hP, hD, hS⟩ ih
    have hl : lv_has ls 2 [(1, .int (nI i)), (0, .ref ro)] := hl
    have hP : va_P (dC, dI) vwCl [(ro, .inr (4, [.ref b0, .ref b1, .ref b2, .ref b3, .ref b4, .ref b5, .ref b6, .ref b7, .ref b8])), (b0, .inl (cA 0, 8, .inl (lz i))), (b1, .inl (cA 0, 39, .inl (fun _ => 0))), (b2, .inl (cA 1, 39, .inr (.inl (fun _ => 0)))), (b3, .inl (cA 2, 39, .inl (fun _ => 0))), (b4, .inl (cA 3, 39, .inl (fun _ => 0))), (b5, .inl (cA 4, 39, .inl (fun _ => 0))), (b6, .inl (cA 5, 39, .inl (fun _ => 0))), (b7, .inl (cA 6, 39, .inr (.inr (.inl (fun _ => 0))))), (b8, .inl (cA 7, 39, .inr (.inr (.inr (.inl (fun _ => 0))))))] H := hP
    have hD : va_D A [(ro, .inr (4, [.ref b0, .ref b1, .ref b2, .ref b3, .ref b4, .ref b5, .ref b6, .ref b7, .ref b8])), (b0, .inl (cA 0, 8, .inl (lz i))), (b1, .inl (cA 0, 39, .inl (fun _ => 0))), (b2, .inl (cA 1, 39, .inr (.inl (fun _ => 0)))), (b3, .inl (cA 2, 39, .inl (fun _ => 0))), (b4, .inl (cA 3, 39, .inl (fun _ => 0))), (b5, .inl (cA 4, 39, .inl (fun _ => 0))), (b6, .inl (cA 5, 39, .inl (fun _ => 0))), (b7, .inl (cA 6, 39, .inr (.inr (.inl (fun _ => 0))))), (b8, .inl (cA 7, 39, .inr (.inr (.inr (.inl (fun _ => 0))))))] := hD
    have hS : va_S A s.heap H locs := hS
    show W p l e _ s m _ below meth c H locs _ _ _ (F0 m 78 ls [])
    refine lv_iload_n hx hb dX4_init_78 rfl (lv_at hl 0 rfl) ?_
    refine lv_bipush (v := 8) hx hb dX4_init_79 (by decide) ?_
    refine lv_icmp_ge (tgt := 97) hx hb dX4_init_81 (by decide) (fun c_1 => ?_) (fun c_1 => ?_)
    · exact absurd c_1 (nI_ge hi (by decide))
    · refine lv_aload_n hx hb dX4_init_84 rfl (lv_at hl 1 rfl) ?_
      refine va_get (D := (dC, dI)) (ci := 4) (v := .ref b0) (C := RX4) (T := TX4) (N := 9) hx hb (ly_4 h hb0) (fun _ z => z) hown hK hP 0 rfl rfl 0 (by decide) (k_32 h hb0) (fun _ z => z) rfl dX4_init_85 ?_
      refine lv_iload_n hx hb dX4_init_88 rfl (lv_at hl 0 rfl) ?_
      refine lv_iconst (v := 3) hx hb dX4_init_89 (by decide) ?_
      refine va_iast hx hb hK hP hD hS 1 0 rfl rfl (vp_in_nI hi (by decide)) dX4_init_90 (fun H locs hP hD hS => ?_)
      have hP : va_P (dC, dI) vwCl [(ro, .inr (4, [.ref b0, .ref b1, .ref b2, .ref b3, .ref b4, .ref b5, .ref b6, .ref b7, .ref b8])), (b0, .inl (cA 0, 8, .inl (upd (lz i) (nI i).toNatClampNeg 3))), (b1, .inl (cA 0, 39, .inl (fun _ => 0))), (b2, .inl (cA 1, 39, .inr (.inl (fun _ => 0)))), (b3, .inl (cA 2, 39, .inl (fun _ => 0))), (b4, .inl (cA 3, 39, .inl (fun _ => 0))), (b5, .inl (cA 4, 39, .inl (fun _ => 0))), (b6, .inl (cA 5, 39, .inl (fun _ => 0))), (b7, .inl (cA 6, 39, .inr (.inr (.inl (fun _ => 0))))), (b8, .inl (cA 7, 39, .inr (.inr (.inr (.inl (fun _ => 0))))))] H := hP
      have hD : va_D A [(ro, .inr (4, [.ref b0, .ref b1, .ref b2, .ref b3, .ref b4, .ref b5, .ref b6, .ref b7, .ref b8])), (b0, .inl (cA 0, 8, .inl (upd (lz i) (nI i).toNatClampNeg 3))), (b1, .inl (cA 0, 39, .inl (fun _ => 0))), (b2, .inl (cA 1, 39, .inr (.inl (fun _ => 0)))), (b3, .inl (cA 2, 39, .inl (fun _ => 0))), (b4, .inl (cA 3, 39, .inl (fun _ => 0))), (b5, .inl (cA 4, 39, .inl (fun _ => 0))), (b6, .inl (cA 5, 39, .inl (fun _ => 0))), (b7, .inl (cA 6, 39, .inr (.inr (.inl (fun _ => 0))))), (b8, .inl (cA 7, 39, .inr (.inr (.inr (.inl (fun _ => 0))))))] := hD
      refine lv_iinc (lv' := [(1, .int (nI (i + 1))), (0, .ref ro)]) hx hb dX4_init_91 hl (k := 0) rfl (nI_1 _) (by decide) rfl (fun ls hl => ?_)
      refine lv_goto (tgt := 78) hx hb dX4_init_94 (by decide) ?_
      rw [nI_clamp (by omega), lz_s] at hP hD
      exact ih (ls, _, _) ⟨hl, hP, hD, hS⟩
  · rintro ⟨ls, H, locs⟩ ⟨hl, hP, hD, hS⟩
    have hl : lv_has ls 2 [(1, .int (nI 8)), (0, .ref ro)] := hl
    have hP : va_P (dC, dI) vwCl [(ro, .inr (4, [.ref b0, .ref b1, .ref b2, .ref b3, .ref b4, .ref b5, .ref b6, .ref b7, .ref b8])), (b0, .inl (cA 0, 8, .inl (lz 8))), (b1, .inl (cA 0, 39, .inl (fun _ => 0))), (b2, .inl (cA 1, 39, .inr (.inl (fun _ => 0)))), (b3, .inl (cA 2, 39, .inl (fun _ => 0))), (b4, .inl (cA 3, 39, .inl (fun _ => 0))), (b5, .inl (cA 4, 39, .inl (fun _ => 0))), (b6, .inl (cA 5, 39, .inl (fun _ => 0))), (b7, .inl (cA 6, 39, .inr (.inr (.inl (fun _ => 0))))), (b8, .inl (cA 7, 39, .inr (.inr (.inr (.inl (fun _ => 0))))))] H := hP
    have hD : va_D A [(ro, .inr (4, [.ref b0, .ref b1, .ref b2, .ref b3, .ref b4, .ref b5, .ref b6, .ref b7, .ref b8])), (b0, .inl (cA 0, 8, .inl (lz 8))), (b1, .inl (cA 0, 39, .inl (fun _ => 0))), (b2, .inl (cA 1, 39, .inr (.inl (fun _ => 0)))), (b3, .inl (cA 2, 39, .inl (fun _ => 0))), (b4, .inl (cA 3, 39, .inl (fun _ => 0))), (b5, .inl (cA 4, 39, .inl (fun _ => 0))), (b6, .inl (cA 5, 39, .inl (fun _ => 0))), (b7, .inl (cA 6, 39, .inr (.inr (.inl (fun _ => 0))))), (b8, .inl (cA 7, 39, .inr (.inr (.inr (.inl (fun _ => 0))))))] := hD
    have hS : va_S A s.heap H locs := hS
    show W p l e _ s m _ below meth c H locs _ _ _ (F0 m 78 ls [])
    refine lv_iload_n hx hb dX4_init_78 rfl (lv_at hl 0 rfl) ?_
    refine lv_bipush (v := 8) hx hb dX4_init_79 (by decide) ?_
    refine lv_icmp_ge (tgt := 97) hx hb dX4_init_81 (by decide) (fun c_2 => ?_) (fun c_2 => ?_)
    · exact W.vret hx hb hr (fun t ht _ => ⟨none, _, rfl, ⟨b0, b1, b2, b3, b4, b5, b6, b7, b8, rfl, by rw [rz_0, rz_1, rz_2, rz_3, rz_4, rz_5, rz_6, rz_7]⟩, by rw [ht]; exact hP, hD, hS.F ht⟩) (fun q z => hS.2.2 q z) dX4_init_97
    · exact absurd (by decide) c_2
set_option maxHeartbeats 4000000 in
set_option maxRecDepth 100000 in
theorem c_gridInit {l : Launch} {s0 : State} {a0 : Array Value} {dC : Nat → ClassId} {dI : Nat → Nat → Nat} {cA : Nat → ClassId} (h : xC l s0 a0 dC dI cA) (gr : Nat) (sz : Nat)  : Met l yX3_init [Cond.code yX3_init cX3_init 3 none] ({ frames := 1, cells := 9, slots := 72, locals := 40 } : Room) (xPM s0 (dC, dI) [.ref gr] [] [(gr, .inr (3, [.null, .int 0, .int 0, .int 0]))] sz) (xQM (dC, dI) (va_A [(gr, .inr (3, [.null, .int 0, .int 0, .int 0]))] sz) (fun r w1 => ∃ (gc : Nat) (ga : Nat → Nat), r = none ∧ w1 = [(gr, .inr (3, [.ref gc, .int 0, .int 0, .int 0])), (gc, .inl (cA 9, 8, .inr (.inr (.inr (.inr (fun i => some (ga i)))))))] ++ rws (cA 0) ga (gmx 8 0))) 9 72 (va_A [(gr, .inr (3, [.null, .int 0, .int 0, .int 0]))] sz) := by
  refine Met.ofW (cc := cX3_init) (maxL := 3) (ret := none) (by decide) rfl ?_
  intro p e s m args below meth c s₁ B hml hv
  obtain ⟨rfl, rfl, hb0, hPr, hP, hD0⟩ := hv
  have hx := B.exec
  have hb := B.bytes
  have hr := B.returns
  have hown : s.vm.findClass RX3 = some m.cls := findClass_of_methodNamed B.named
  have hlocks := B.notSynchronized
  have hK := h.K hb0
  have hin : meth.name = "<init>" := (name_of_methodNamed B.named B.method).1
  have hS : va_S (va_A [(gr, .inr (3, [.null, .int 0, .int 0, .int 0]))] s.heap.size) s.heap s.heap [] := va_S.rf
  obtain ⟨A, hAe, hD, hA, hz, hRo, hwk, hnR⟩ := xM_start hb0 hPr hP hD0
  rw [hAe] at hS ⊢
  have hl := lv_entry ([.ref gr]) (n := 3) (Nat.le_of_ble_eq_true rfl)
  rw [lg_entry_eq]
  generalize (lg_sl ([.ref gr]) ++ List.replicate (3 - (lg_sl ([.ref gr])).length) Slot.unset).toArray = ls at hl ⊢
  have hl : lv_has ls 3 [(0, .ref gr)] := hl
  refine lv_aload_n hx hb dX3_init_0 rfl (lv_at hl 0 rfl) ?_
  refine W.objInit hx hb hown (k_73 h hb0) (k_24 h hb0) (k_25 h hb0) rfl (hl.1.trans hml.symm) rfl dX3_init_1 (Nat.le_of_ble_eq_true rfl) (Nat.le_of_ble_eq_true rfl) ?_
  show W _ _ _ _ _ _ _ _ _ _ _ _ _ _ _ (F0 m 4 ls [])
  refine lv_aload_n hx hb dX3_init_4 rfl (lv_at hl 0 rfl) ?_
  refine lv_bipush (v := 8) hx hb dX3_init_5 (by decide) ?_
  refine lv_bipush (v := 8) hx hb dX3_init_7 (by decide) ?_
  refine xmulti (t0 := 0) (t1 := 9) (cI := cA 0) (cG := cA 9) hx hb hown (k_74 h hb0) (xover h hb0) (k_60 h hb0) hK rfl rfl hP hD hS hA (Nat.le_of_ble_eq_true rfl) (Nat.le_of_ble_eq_true rfl) dX3_init_9 (fun gc ga H hP hD hS => ?_)
  have hP : va_P (dC, dI) vwCl ([(gr, .inr (3, [.null, .int 0, .int 0, .int 0])), (gc, .inl (cA 9, 8, .inr (.inr (.inr (.inr (fun i => some (ga i)))))))] ++ rws (cA 0) ga (fun _ _ => 0)) H := hP
  have hD : va_D A ([(gr, .inr (3, [.null, .int 0, .int 0, .int 0])), (gc, .inl (cA 9, 8, .inr (.inr (.inr (.inr (fun i => some (ga i)))))))] ++ rws (cA 0) ga (fun _ _ => 0)) := hD
  refine va_putF (D := (dC, dI)) (ci := 3) (v := .ref gc) (ty := .array (.array .int)) (C := RX3) (T := TX3) (N := 4) hx hb (ly_3 h hb0) (fun _ z => z) tyX3 tyX3_ok nmX3 hown hK hP hD hS 0 rfl rfl 0 (by decide) (k_76 h hb0) (fun _ z => z) rfl hin rfl (by decide +kernel) rfl rfl (Nat.le_of_ble_eq_true rfl) dX3_init_13 (fun H locs hP hD hS => ?_)
  have hP : va_P (dC, dI) vwCl ([(gr, .inr (3, [.ref gc, .int 0, .int 0, .int 0])), (gc, .inl (cA 9, 8, .inr (.inr (.inr (.inr (fun i => some (ga i)))))))] ++ rws (cA 0) ga (fun _ _ => 0)) H := hP
  have hD : va_D A ([(gr, .inr (3, [.ref gc, .int 0, .int 0, .int 0])), (gc, .inl (cA 9, 8, .inr (.inr (.inr (.inr (fun i => some (ga i)))))))] ++ rws (cA 0) ga (fun _ _ => 0)) := hD
  refine lv_aload_n hx hb dX3_init_16 rfl (lv_at hl 0 rfl) ?_
  refine lv_iconst (v := 0) hx hb dX3_init_17 (by decide) ?_
  refine va_put (D := (dC, dI)) (ci := 3) (v := .int 0) (ty := .boolean) (C := RX3) (T := TX3) (N := 4) hx hb (ly_3 h hb0) (fun _ z => z) tyX3 tyX3_ok nmX3 hown hK hP hD hS 0 rfl rfl 1 (by decide) (k_77 h hb0) (fun _ z => z) rfl (by decide +kernel) rfl rfl (Nat.le_of_ble_eq_true rfl) dX3_init_18 (fun H locs hP hD hS => ?_)
  have hP : va_P (dC, dI) vwCl ([(gr, .inr (3, [.ref gc, .int 0, .int 0, .int 0])), (gc, .inl (cA 9, 8, .inr (.inr (.inr (.inr (fun i => some (ga i)))))))] ++ rws (cA 0) ga (fun _ _ => 0)) H := hP
  have hD : va_D A ([(gr, .inr (3, [.ref gc, .int 0, .int 0, .int 0])), (gc, .inl (cA 9, 8, .inr (.inr (.inr (.inr (fun i => some (ga i)))))))] ++ rws (cA 0) ga (fun _ _ => 0)) := hD
  refine lv_aload_n hx hb dX3_init_21 rfl (lv_at hl 0 rfl) ?_
  refine lv_iconst (v := 0) hx hb dX3_init_22 (by decide) ?_
  refine va_put (D := (dC, dI)) (ci := 3) (v := .int 0) (ty := .int) (C := RX3) (T := TX3) (N := 4) hx hb (ly_3 h hb0) (fun _ z => z) tyX3 tyX3_ok nmX3 hown hK hP hD hS 0 rfl rfl 2 (by decide) (k_78 h hb0) (fun _ z => z) rfl (by decide +kernel) rfl rfl (Nat.le_of_ble_eq_true rfl) dX3_init_23 (fun H locs hP hD hS => ?_)
  have hP : va_P (dC, dI) vwCl ([(gr, .inr (3, [.ref gc, .int 0, .int 0, .int 0])), (gc, .inl (cA 9, 8, .inr (.inr (.inr (.inr (fun i => some (ga i)))))))] ++ rws (cA 0) ga (fun _ _ => 0)) H := hP
  have hD : va_D A ([(gr, .inr (3, [.ref gc, .int 0, .int 0, .int 0])), (gc, .inl (cA 9, 8, .inr (.inr (.inr (.inr (fun i => some (ga i)))))))] ++ rws (cA 0) ga (fun _ _ => 0)) := hD
  refine lv_aload_n hx hb dX3_init_26 rfl (lv_at hl 0 rfl) ?_
  refine lv_iconst (v := 0) hx hb dX3_init_27 (by decide) ?_
  refine va_put (D := (dC, dI)) (ci := 3) (v := .int 0) (ty := .int) (C := RX3) (T := TX3) (N := 4) hx hb (ly_3 h hb0) (fun _ z => z) tyX3 tyX3_ok nmX3 hown hK hP hD hS 0 rfl rfl 3 (by decide) (k_79 h hb0) (fun _ z => z) rfl (by decide +kernel) rfl rfl (Nat.le_of_ble_eq_true rfl) dX3_init_28 (fun H locs hP hD hS => ?_)
  have hP : va_P (dC, dI) vwCl ([(gr, .inr (3, [.ref gc, .int 0, .int 0, .int 0])), (gc, .inl (cA 9, 8, .inr (.inr (.inr (.inr (fun i => some (ga i)))))))] ++ rws (cA 0) ga (fun _ _ => 0)) H := hP
  have hD : va_D A ([(gr, .inr (3, [.ref gc, .int 0, .int 0, .int 0])), (gc, .inl (cA 9, 8, .inr (.inr (.inr (.inr (fun i => some (ga i)))))))] ++ rws (cA 0) ga (fun _ _ => 0)) := hD
  refine lv_iconst (v := 0) hx hb dX3_init_31 (by decide) ?_
  refine lv_istore_n (lv' := [(1, .int 0), (0, .ref gr)]) hx hb dX3_init_32 rfl hl (by decide) rfl (fun ls hl => ?_)
  refine xloop (σ := Array Slot × Heap × List Loc) (fun i z => lv_has z.1 3 [(1, .int (nI i)), (0, .ref gr)] ∧ va_P (dC, dI) vwCl ([(gr, .inr (3, [.ref gc, .int 0, .int 0, .int 0])), (gc, .inl (cA 9, 8, .inr (.inr (.inr (.inr (fun i => some (ga i)))))))] ++ rws (cA 0) ga (gmx i 0)) z.2.1 ∧ va_D A ([(gr, .inr (3, [.ref gc, .int 0, .int 0, .int 0])), (gc, .inl (cA 9, 8, .inr (.inr (.inr (.inr (fun i => some (ga i)))))))] ++ rws (cA 0) ga (gmx i 0)) ∧ va_S A s.heap z.2.1 z.2.2) (fun z => W p l e _ s m _ below meth c z.2.1 z.2.2 _ _ _ (F0 m 33 z.1 [])) 8 ?_ ?_ (ls, _, _) ⟨hl, by rw [gmx_0]; exact hP, by rw [gmx_0]; exact hD, hS⟩
  · rintro i ⟨ls, H, locs⟩ hi ⟨hl, hP, hD, hS⟩ ih
    have hl : lv_has ls 3 [(1, .int (nI i)), (0, .ref gr)] := hl
    have hP : va_P (dC, dI) vwCl ([(gr, .inr (3, [.ref gc, .int 0, .int 0, .int 0])), (gc, .inl (cA 9, 8, .inr (.inr (.inr (.inr (fun i => some (ga i)))))))] ++ rws (cA 0) ga (gmx i 0)) H := hP
    have hD : va_D A ([(gr, .inr (3, [.ref gc, .int 0, .int 0, .int 0])), (gc, .inl (cA 9, 8, .inr (.inr (.inr (.inr (fun i => some (ga i)))))))] ++ rws (cA 0) ga (gmx i 0)) := hD
    have hS : va_S A s.heap H locs := hS
    show W p l e _ s m _ below meth c H locs _ _ _ (F0 m 33 ls [])
    refine lv_iload_n hx hb dX3_init_33 rfl (lv_at hl 0 rfl) ?_
    refine lv_bipush (v := 8) hx hb dX3_init_34 (by decide) ?_
    refine lv_icmp_ge (tgt := 73) hx hb dX3_init_36 (by decide) (fun c_1 => ?_) (fun c_1 => ?_)
    · exact absurd c_1 (nI_ge hi (by decide))
    · refine lv_iconst (v := 0) hx hb dX3_init_39 (by decide) ?_
      refine lv_istore_n (lv' := [(2, .int 0), (1, .int (nI i)), (0, .ref gr)]) hx hb dX3_init_40 rfl hl (by decide) rfl (fun ls hl => ?_)
      refine xloop (σ := Array Slot × Heap × List Loc) (fun j z => lv_has z.1 3 [(2, .int (nI j)), (1, .int (nI i)), (0, .ref gr)] ∧ va_P (dC, dI) vwCl ([(gr, .inr (3, [.ref gc, .int 0, .int 0, .int 0])), (gc, .inl (cA 9, 8, .inr (.inr (.inr (.inr (fun i => some (ga i)))))))] ++ rws (cA 0) ga (gmx i j)) z.2.1 ∧ va_D A ([(gr, .inr (3, [.ref gc, .int 0, .int 0, .int 0])), (gc, .inl (cA 9, 8, .inr (.inr (.inr (.inr (fun i => some (ga i)))))))] ++ rws (cA 0) ga (gmx i j)) ∧ va_S A s.heap z.2.1 z.2.2) (fun z => W p l e _ s m _ below meth c z.2.1 z.2.2 _ _ _ (F0 m 41 z.1 [])) 8 ?_ ?_ (ls, _, _) ⟨hl, hP, hD, hS⟩
      · rintro j ⟨ls, H, locs⟩ hj ⟨hl, hP, hD, hS⟩ jh
        have hl : lv_has ls 3 [(2, .int (nI j)), (1, .int (nI i)), (0, .ref gr)] := hl
        have hP : va_P (dC, dI) vwCl ([(gr, .inr (3, [.ref gc, .int 0, .int 0, .int 0])), (gc, .inl (cA 9, 8, .inr (.inr (.inr (.inr (fun i => some (ga i)))))))] ++ rws (cA 0) ga (gmx i j)) H := hP
        have hD : va_D A ([(gr, .inr (3, [.ref gc, .int 0, .int 0, .int 0])), (gc, .inl (cA 9, 8, .inr (.inr (.inr (.inr (fun i => some (ga i)))))))] ++ rws (cA 0) ga (gmx i j)) := hD
        have hS : va_S A s.heap H locs := hS
        show W p l e _ s m _ below meth c H locs _ _ _ (F0 m 41 ls [])
        refine lv_iload_n hx hb dX3_init_41 rfl (lv_at hl 0 rfl) ?_
        refine lv_bipush (v := 8) hx hb dX3_init_42 (by decide) ?_
        refine lv_icmp_ge (tgt := 67) hx hb dX3_init_44 (by decide) (fun c_2 => ?_) (fun c_2 => ?_)
        · exact absurd c_2 (nI_ge hj (by decide))
        · refine lv_aload_n hx hb dX3_init_47 rfl (lv_at hl 2 rfl) ?_
          refine va_get (D := (dC, dI)) (ci := 3) (v := .ref gc) (C := RX3) (T := TX3) (N := 4) hx hb (ly_3 h hb0) (fun _ z => z) hown hK hP 0 rfl rfl 0 (by decide) (k_76 h hb0) (fun _ z => z) rfl dX3_init_48 ?_
          refine lv_iload_n hx hb dX3_init_51 rfl (lv_at hl 1 rfl) ?_
          refine xaldA hx hb hK hP 1 9 rfl rfl (vp_in_nI hi (by decide)) dX3_init_52 ?_
          rw [nI_clamp (Nat.lt_trans hi (by decide))]
          show W _ _ _ _ _ _ _ _ _ _ _ _ _ _ _ (F0 m 53 ls [.ref (ga i)])
          refine lv_iload_n hx hb dX3_init_53 rfl (lv_at hl 0 rfl) ?_
          refine lv_bipush (v := 10) hx hb dX3_init_54 (by decide) ?_
          refine lv_iload_n hx hb dX3_init_56 rfl (lv_at hl 1 rfl) ?_
          refine lv_imul hx hb dX3_init_57 ?_
          refine lv_iload_n hx hb dX3_init_58 rfl (lv_at hl 0 rfl) ?_
          refine lv_iadd hx hb dX3_init_59 ?_
          refine va_iast hx hb hK hP hD hS (2 + i) 0 (rws_get rfl hi) rfl (vp_in_nI hj (by decide)) dX3_init_60 (fun H locs hP hD hS => ?_)
          rw [nI_clamp (Nat.lt_trans hj (by decide)), rws_set (X := [(gr, .inr (3, [.ref gc, .int 0, .int 0, .int 0])), (gc, .inl (cA 9, 8, .inr (.inr (.inr (.inr (fun i => some (ga i)))))))]) (n := 2) rfl hi, gmx_s hj] at hP hD
          have hP : va_P (dC, dI) vwCl ([(gr, .inr (3, [.ref gc, .int 0, .int 0, .int 0])), (gc, .inl (cA 9, 8, .inr (.inr (.inr (.inr (fun i => some (ga i)))))))] ++ rws (cA 0) ga (gmx i (j + 1))) H := hP
          have hD : va_D A ([(gr, .inr (3, [.ref gc, .int 0, .int 0, .int 0])), (gc, .inl (cA 9, 8, .inr (.inr (.inr (.inr (fun i => some (ga i)))))))] ++ rws (cA 0) ga (gmx i (j + 1))) := hD
          refine lv_iinc (lv' := [(2, .int (nI (j + 1))), (1, .int (nI i)), (0, .ref gr)]) hx hb dX3_init_61 hl (k := 0) rfl (nI_1 _) (by decide) rfl (fun ls hl => ?_)
          refine lv_goto (tgt := 41) hx hb dX3_init_64 (by decide) ?_
          exact jh (ls, _, _) ⟨hl, hP, hD, hS⟩
      · rintro ⟨ls, H, locs⟩ ⟨hl, hP, hD, hS⟩
        have hl : lv_has ls 3 [(2, .int (nI 8)), (1, .int (nI i)), (0, .ref gr)] := hl
        have hP : va_P (dC, dI) vwCl ([(gr, .inr (3, [.ref gc, .int 0, .int 0, .int 0])), (gc, .inl (cA 9, 8, .inr (.inr (.inr (.inr (fun i => some (ga i)))))))] ++ rws (cA 0) ga (gmx i 8)) H := hP
        have hD : va_D A ([(gr, .inr (3, [.ref gc, .int 0, .int 0, .int 0])), (gc, .inl (cA 9, 8, .inr (.inr (.inr (.inr (fun i => some (ga i)))))))] ++ rws (cA 0) ga (gmx i 8)) := hD
        have hS : va_S A s.heap H locs := hS
        show W p l e _ s m _ below meth c H locs _ _ _ (F0 m 41 ls [])
        refine lv_iload_n hx hb dX3_init_41 rfl (lv_at hl 0 rfl) ?_
        refine lv_bipush (v := 8) hx hb dX3_init_42 (by decide) ?_
        refine lv_icmp_ge (tgt := 67) hx hb dX3_init_44 (by decide) (fun c_3 => ?_) (fun c_3 => ?_)
        · refine lv_iinc (lv' := [(1, .int (nI (i + 1))), (2, .int (nI 8)), (0, .ref gr)]) hx hb dX3_init_67 hl (k := 1) rfl (nI_1 _) (by decide) rfl (fun ls hl => ?_)
          refine lv_goto (tgt := 33) hx hb dX3_init_70 (by decide) ?_
          have hl : lv_has ls 3 [(1, .int (nI (i + 1))), (0, .ref gr)] := lv_sub hl [0, 2] rfl
          rw [gmx_e] at hP hD
          exact ih (ls, _, _) ⟨hl, hP, hD, hS⟩
        · exact absurd (by decide) c_3
  · rintro ⟨ls, H, locs⟩ ⟨hl, hP, hD, hS⟩
    have hl : lv_has ls 3 [(1, .int (nI 8)), (0, .ref gr)] := hl
    have hP : va_P (dC, dI) vwCl ([(gr, .inr (3, [.ref gc, .int 0, .int 0, .int 0])), (gc, .inl (cA 9, 8, .inr (.inr (.inr (.inr (fun i => some (ga i)))))))] ++ rws (cA 0) ga (gmx 8 0)) H := hP
    have hD : va_D A ([(gr, .inr (3, [.ref gc, .int 0, .int 0, .int 0])), (gc, .inl (cA 9, 8, .inr (.inr (.inr (.inr (fun i => some (ga i)))))))] ++ rws (cA 0) ga (gmx 8 0)) := hD
    have hS : va_S A s.heap H locs := hS
    show W p l e _ s m _ below meth c H locs _ _ _ (F0 m 33 ls [])
    refine lv_iload_n hx hb dX3_init_33 rfl (lv_at hl 0 rfl) ?_
    refine lv_bipush (v := 8) hx hb dX3_init_34 (by decide) ?_
    refine lv_icmp_ge (tgt := 73) hx hb dX3_init_36 (by decide) (fun c_4 => ?_) (fun c_4 => ?_)
    · exact W.vret hx hb hr (fun t ht _ => ⟨none, _, rfl, ⟨gc, ga, rfl, rfl⟩, by rw [ht]; exact hP, hD, hS.F ht⟩) (fun q z => hS.2.2 q z) dX3_init_73
    · exact absurd (by decide) c_4
set_option maxHeartbeats 4000000 in
set_option maxRecDepth 100000 in
theorem c_brInit {l : Launch} {s0 : State} {a0 : Array Value} {dC : Nat → ClassId} {dI : Nat → Nat → Nat} {cA : Nat → ClassId} (h : xC l s0 a0 dC dI cA) (br : Nat) (sz : Nat)  : Met l yX1_init [Cond.code yX1_init cX1_init 1 none] ({ frames := 1, cells := 1, slots := 19, locals := 40 } : Room) (xPM s0 (dC, dI) [.ref br] [] [(br, .inr (1, [.null, .int 0, .int 0, .int 0]))] sz) (xQM (dC, dI) (va_A [(br, .inr (1, [.null, .int 0, .int 0, .int 0]))] sz) (fun r w1 => ∃ pl : Nat, r = none ∧ w1 = [(br, .inr (1, [.ref pl, .int 0, .int 0, .int 0])), (pl, .inl (cA 8, 19, .inr (.inr (.inr (.inr (fun _ => none))))))])) 1 19 (va_A [(br, .inr (1, [.null, .int 0, .int 0, .int 0]))] sz) := by
  refine Met.ofW (cc := cX1_init) (maxL := 1) (ret := none) (by decide) rfl ?_
  intro p e s m args below meth c s₁ B hml hv
  obtain ⟨rfl, rfl, hb0, hPr, hP, hD0⟩ := hv
  have hx := B.exec
  have hb := B.bytes
  have hr := B.returns
  have hown : s.vm.findClass RX1 = some m.cls := findClass_of_methodNamed B.named
  have hlocks := B.notSynchronized
  have hK := h.K hb0
  have hin : meth.name = "<init>" := (name_of_methodNamed B.named B.method).1
  have hS : va_S (va_A [(br, .inr (1, [.null, .int 0, .int 0, .int 0]))] s.heap.size) s.heap s.heap [] := va_S.rf
  obtain ⟨A, hAe, hD, hA, hz, hRo, hwk, hnR⟩ := xM_start hb0 hPr hP hD0
  rw [hAe] at hS ⊢
  have hl := lv_entry ([.ref br]) (n := 1) (Nat.le_of_ble_eq_true rfl)
  rw [lg_entry_eq]
  generalize (lg_sl ([.ref br]) ++ List.replicate (1 - (lg_sl ([.ref br])).length) Slot.unset).toArray = ls at hl ⊢
  have hl : lv_has ls 1 [(0, .ref br)] := hl
  refine lv_aload_n hx hb dX1_init_0 rfl (lv_at hl 0 rfl) ?_
  refine W.objInit hx hb hown (k_94 h hb0) (k_24 h hb0) (k_25 h hb0) rfl (hl.1.trans hml.symm) rfl dX1_init_1 (Nat.le_of_ble_eq_true rfl) (Nat.le_of_ble_eq_true rfl) ?_
  show W _ _ _ _ _ _ _ _ _ _ _ _ _ _ _ (F0 m 4 ls [])
  refine lv_aload_n hx hb dX1_init_4 rfl (lv_at hl 0 rfl) ?_
  refine lv_bipush (v := 19) hx hb dX1_init_5 (by decide) ?_
  refine va_newq (own := RX1) (C := RX0) hx hb hown (k_95 h hb0) (va_AO.moved hb0.1.alike (h.2.1 _ (List.mem_of_getElem? (i := 101) rfl))) hK hP hD hS hA (N' := 19) (by decide) rfl (by decide) (Nat.le_of_ble_eq_true rfl) (Nat.le_of_ble_eq_true rfl) dX1_init_7 (fun pl cN H hKn hP hD hS => ?_)
  obtain rfl : cN = cA 8 := xRA_eq (hKn.2 10 _ rfl).2 (hK.2 8 _ rfl).2
  clear hKn
  have hP : va_P (dC, dI) vwCl [(br, .inr (1, [.null, .int 0, .int 0, .int 0])), (pl, .inl (cA 8, 19, .inr (.inr (.inr (.inr (fun _ => none))))))] H := hP
  have hD : va_D A [(br, .inr (1, [.null, .int 0, .int 0, .int 0])), (pl, .inl (cA 8, 19, .inr (.inr (.inr (.inr (fun _ => none))))))] := hD
  refine va_putF (D := (dC, dI)) (ci := 1) (v := .ref pl) (ty := .array (.object "FaultBench$Box")) (C := RX1) (T := TX1) (N := 4) hx hb (ly_1 h hb0) (fun _ z => z) tyX1 tyX1_ok nmX1 hown hK hP hD hS 0 rfl rfl 0 (by decide) (k_97 h hb0) (fun _ z => z) rfl hin rfl (by decide +kernel) rfl rfl (Nat.le_of_ble_eq_true rfl) dX1_init_10 (fun H locs hP hD hS => ?_)
  have hP : va_P (dC, dI) vwCl [(br, .inr (1, [.ref pl, .int 0, .int 0, .int 0])), (pl, .inl (cA 8, 19, .inr (.inr (.inr (.inr (fun _ => none))))))] H := hP
  have hD : va_D A [(br, .inr (1, [.ref pl, .int 0, .int 0, .int 0])), (pl, .inl (cA 8, 19, .inr (.inr (.inr (.inr (fun _ => none))))))] := hD
  refine lv_aload_n hx hb dX1_init_13 rfl (lv_at hl 0 rfl) ?_
  refine lv_iconst (v := 0) hx hb dX1_init_14 (by decide) ?_
  refine va_put (D := (dC, dI)) (ci := 1) (v := .int 0) (ty := .boolean) (C := RX1) (T := TX1) (N := 4) hx hb (ly_1 h hb0) (fun _ z => z) tyX1 tyX1_ok nmX1 hown hK hP hD hS 0 rfl rfl 1 (by decide) (k_98 h hb0) (fun _ z => z) rfl (by decide +kernel) rfl rfl (Nat.le_of_ble_eq_true rfl) dX1_init_15 (fun H locs hP hD hS => ?_)
  have hP : va_P (dC, dI) vwCl [(br, .inr (1, [.ref pl, .int 0, .int 0, .int 0])), (pl, .inl (cA 8, 19, .inr (.inr (.inr (.inr (fun _ => none))))))] H := hP
  have hD : va_D A [(br, .inr (1, [.ref pl, .int 0, .int 0, .int 0])), (pl, .inl (cA 8, 19, .inr (.inr (.inr (.inr (fun _ => none))))))] := hD
  refine lv_aload_n hx hb dX1_init_18 rfl (lv_at hl 0 rfl) ?_
  refine lv_iconst (v := 0) hx hb dX1_init_19 (by decide) ?_
  refine va_put (D := (dC, dI)) (ci := 1) (v := .int 0) (ty := .boolean) (C := RX1) (T := TX1) (N := 4) hx hb (ly_1 h hb0) (fun _ z => z) tyX1 tyX1_ok nmX1 hown hK hP hD hS 0 rfl rfl 2 (by decide) (k_99 h hb0) (fun _ z => z) rfl (by decide +kernel) rfl rfl (Nat.le_of_ble_eq_true rfl) dX1_init_20 (fun H locs hP hD hS => ?_)
  have hP : va_P (dC, dI) vwCl [(br, .inr (1, [.ref pl, .int 0, .int 0, .int 0])), (pl, .inl (cA 8, 19, .inr (.inr (.inr (.inr (fun _ => none))))))] H := hP
  have hD : va_D A [(br, .inr (1, [.ref pl, .int 0, .int 0, .int 0])), (pl, .inl (cA 8, 19, .inr (.inr (.inr (.inr (fun _ => none))))))] := hD
  refine lv_aload_n hx hb dX1_init_23 rfl (lv_at hl 0 rfl) ?_
  refine lv_iconst (v := 0) hx hb dX1_init_24 (by decide) ?_
  refine va_put (D := (dC, dI)) (ci := 1) (v := .int 0) (ty := .int) (C := RX1) (T := TX1) (N := 4) hx hb (ly_1 h hb0) (fun _ z => z) tyX1 tyX1_ok nmX1 hown hK hP hD hS 0 rfl rfl 3 (by decide) (k_100 h hb0) (fun _ z => z) rfl (by decide +kernel) rfl rfl (Nat.le_of_ble_eq_true rfl) dX1_init_25 (fun H locs hP hD hS => ?_)
  have hP : va_P (dC, dI) vwCl [(br, .inr (1, [.ref pl, .int 0, .int 0, .int 0])), (pl, .inl (cA 8, 19, .inr (.inr (.inr (.inr (fun _ => none))))))] H := hP
  have hD : va_D A [(br, .inr (1, [.ref pl, .int 0, .int 0, .int 0])), (pl, .inl (cA 8, 19, .inr (.inr (.inr (.inr (fun _ => none))))))] := hD
  exact W.vret hx hb hr (fun t ht _ => ⟨none, _, rfl, ⟨pl, rfl, rfl⟩, by rw [ht]; exact hP, hD, hS.F ht⟩) (fun q z => hS.2.2 q z) dX1_init_28
set_option maxHeartbeats 4000000 in
set_option maxRecDepth 100000 in
theorem c_fbInit {l : Launch} {s0 : State} {a0 : Array Value} {dC : Nat → ClassId} {dI : Nat → Nat → Nat} {cA : Nat → ClassId} (h : xC l s0 a0 dC dI cA) (b : Nat) (sz : Nat)  : Met l yX5_init [Cond.code yX5_init cX5_init 1 none] ({ frames := 2, cells := 22, slots := 428, locals := 100 } : Room) (xPM s0 (dC, dI) [.ref b] [] [(b, .inr (5, [.null, .null, .null, .int 0, .int 0]))] sz) (xQM (dC, dI) (va_A [(b, .inr (5, [.null, .null, .null, .int 0, .int 0]))] sz) (fun r w1 => ∃ (ro b0 b1 b2 b3 b4 b5 b6 b7 b8 gr gc br pl : Nat) (ga : Nat → Nat), r = none ∧ w1 = [(b, .inr (5, [.ref ro, .ref gr, .ref br, .int 0, .int 0])), (ro, .inr (4, [.ref b0, .ref b1, .ref b2, .ref b3, .ref b4, .ref b5, .ref b6, .ref b7, .ref b8])), (b0, .inl (cA 0, 8, .inl (lz 8))), (b1, .inl (cA 0, 39, .inl (r0 (fun _ _ => 0)))), (b2, .inl (cA 1, 39, .inr (.inl (r1 (fun _ _ => 0))))), (b3, .inl (cA 2, 39, .inl (r2 (fun _ _ => 0)))), (b4, .inl (cA 3, 39, .inl (r3 (fun _ _ => 0)))), (b5, .inl (cA 4, 39, .inl (r4 (fun _ _ => 0)))), (b6, .inl (cA 5, 39, .inl (r5 (fun _ _ => 0)))), (b7, .inl (cA 6, 39, .inr (.inr (.inl (r6 (fun _ _ => 0)))))), (b8, .inl (cA 7, 39, .inr (.inr (.inr (.inl (r7 (fun _ _ => 0))))))), (gr, .inr (3, [.ref gc, .int 0, .int 0, .int 0])), (gc, .inl (cA 9, 8, .inr (.inr (.inr (.inr (fun i => some (ga i))))))), (br, .inr (1, [.ref pl, .int 0, .int 0, .int 0])), (pl, .inl (cA 8, 19, .inr (.inr (.inr (.inr (fun _ => none))))))] ++ rws (cA 0) ga (gmx 8 0))) 22 428 (va_A [(b, .inr (5, [.null, .null, .null, .int 0, .int 0]))] sz) := by
  refine Met.ofW (cc := cX5_init) (maxL := 1) (ret := none) (by decide) rfl ?_
  intro p e s m args below meth c s₁ B hml hv
  obtain ⟨rfl, rfl, hb0, hPr, hP, hD0⟩ := hv
  have hx := B.exec
  have hb := B.bytes
  have hr := B.returns
  have hown : s.vm.findClass RX5 = some m.cls := findClass_of_methodNamed B.named
  have hlocks := B.notSynchronized
  have hK := h.K hb0
  have hin : meth.name = "<init>" := (name_of_methodNamed B.named B.method).1
  have hS : va_S (va_A [(b, .inr (5, [.null, .null, .null, .int 0, .int 0]))] s.heap.size) s.heap s.heap [] := va_S.rf
  obtain ⟨A, hAe, hD, hA, hz, hRo, hwk, hnR⟩ := xM_start hb0 hPr hP hD0
  rw [hAe] at hS ⊢
  have hl := lv_entry ([.ref b]) (n := 1) (Nat.le_of_ble_eq_true rfl)
  rw [lg_entry_eq]
  generalize (lg_sl ([.ref b]) ++ List.replicate (1 - (lg_sl ([.ref b])).length) Slot.unset).toArray = ls at hl ⊢
  have hl : lv_has ls 1 [(0, .ref b)] := hl
  refine lv_aload_n hx hb dX5_init_0 rfl (lv_at hl 0 rfl) ?_
  refine W.objInit hx hb hown (k_23 h hb0) (k_24 h hb0) (k_25 h hb0) rfl (hl.1.trans hml.symm) rfl dX5_init_1 (Nat.le_of_ble_eq_true rfl) (Nat.le_of_ble_eq_true rfl) ?_
  show W _ _ _ _ _ _ _ _ _ _ _ _ _ _ _ (F0 m 4 ls [])
  refine lv_aload_n hx hb dX5_init_4 rfl (lv_at hl 0 rfl) ?_
  refine va_new (C := RX4) (T := TX4) (N := 9) (ci := 4) (fs := [.null, .null, .null, .null, .null, .null, .null, .null, .null]) hx hb (ly_4 h hb0) (fun _ z => z) tyX4 tyX4_ok hown (k_26 h hb0) (k_27 h hb0) (k_2 h hb0) hK hP hD hS hA rfl dfX4 (Nat.le_of_ble_eq_true rfl) (Nat.le_of_ble_eq_true rfl) dX5_init_5 (fun ro H hP hD hS => ?_)
  have hP : va_P (dC, dI) vwCl [(b, .inr (5, [.null, .null, .null, .int 0, .int 0])), (ro, .inr (4, [.null, .null, .null, .null, .null, .null, .null, .null, .null]))] H := hP
  have hD : va_D A [(b, .inr (5, [.null, .null, .null, .int 0, .int 0])), (ro, .inr (4, [.null, .null, .null, .null, .null, .null, .null, .null, .null]))] := hD
  refine lv_dup hx hb dX5_init_8 rfl ?_
  refine xm_of (wc := [(ro, .inr (4, [.null, .null, .null, .null, .null, .null, .null, .null, .null]))]) (wo := [(b, .inr (5, [.null, .null, .null, .int 0, .int 0]))]) (va_runI (As := []) (rest := [.ref ro, .ref b]) ⟨hx, hb, hml, hown, xTs⟩ (c_rowsInit h ro _) ⟨xB (n := 0) (k_30 h hb0) (k_2 h hb0) (k_28 h hb0) (by decide) rfl rfl rfl (by decide) (by decide), rfl, (k_29 h hb0)⟩ (xpMS (As := [.ref ro]) (wr := []) (wc := [(ro, .inr (4, [.null, .null, .null, .null, .null, .null, .null, .null, .null]))]) hb0 hS hz (va_P.sub hP [] rfl) (va_P.sub hP [1] rfl) (va_D.sub (hwk _ hD) [1] rfl rfl)) rfl rfl hl.1 rfl (lv_room (Nat.le_of_ble_eq_true rfl)) dX5_init_9 ⟨(Nat.le_of_ble_eq_true rfl), (Nat.le_of_ble_eq_true rfl)⟩) hP hD hS hA [1] [0] rfl rfl rfl (by decide) (fun r w1 H locs hΦ hP hD hS => ?_)
  obtain ⟨b0, b1, b2, b3, b4, b5, b6, b7, b8, rfl, rfl⟩ := hΦ
  have hP : va_P (dC, dI) vwCl [(b, .inr (5, [.null, .null, .null, .int 0, .int 0])), (ro, .inr (4, [.ref b0, .ref b1, .ref b2, .ref b3, .ref b4, .ref b5, .ref b6, .ref b7, .ref b8])), (b0, .inl (cA 0, 8, .inl (lz 8))), (b1, .inl (cA 0, 39, .inl (r0 (fun _ _ => 0)))), (b2, .inl (cA 1, 39, .inr (.inl (r1 (fun _ _ => 0))))), (b3, .inl (cA 2, 39, .inl (r2 (fun _ _ => 0)))), (b4, .inl (cA 3, 39, .inl (r3 (fun _ _ => 0)))), (b5, .inl (cA 4, 39, .inl (r4 (fun _ _ => 0)))), (b6, .inl (cA 5, 39, .inl (r5 (fun _ _ => 0)))), (b7, .inl (cA 6, 39, .inr (.inr (.inl (r6 (fun _ _ => 0)))))), (b8, .inl (cA 7, 39, .inr (.inr (.inr (.inl (r7 (fun _ _ => 0)))))))] H := hP
  have hD : va_D A [(b, .inr (5, [.null, .null, .null, .int 0, .int 0])), (ro, .inr (4, [.ref b0, .ref b1, .ref b2, .ref b3, .ref b4, .ref b5, .ref b6, .ref b7, .ref b8])), (b0, .inl (cA 0, 8, .inl (lz 8))), (b1, .inl (cA 0, 39, .inl (r0 (fun _ _ => 0)))), (b2, .inl (cA 1, 39, .inr (.inl (r1 (fun _ _ => 0))))), (b3, .inl (cA 2, 39, .inl (r2 (fun _ _ => 0)))), (b4, .inl (cA 3, 39, .inl (r3 (fun _ _ => 0)))), (b5, .inl (cA 4, 39, .inl (r4 (fun _ _ => 0)))), (b6, .inl (cA 5, 39, .inl (r5 (fun _ _ => 0)))), (b7, .inl (cA 6, 39, .inr (.inr (.inl (r6 (fun _ _ => 0)))))), (b8, .inl (cA 7, 39, .inr (.inr (.inr (.inl (r7 (fun _ _ => 0)))))))] := hD
  refine va_putF (D := (dC, dI)) (ci := 5) (v := .ref ro) (ty := .object "FaultBench$Rows") (C := RX5) (T := TX5) (N := 5) hx hb (ly_5 h hb0) (fun _ z => z) tyX5 tyX5_ok nmX5 hown hK hP hD hS 0 rfl rfl 0 (by decide) (k_110 h hb0) (fun _ z => z) rfl hin rfl (by decide +kernel) rfl rfl (Nat.le_of_ble_eq_true rfl) dX5_init_12 (fun H locs hP hD hS => ?_)
  have hP : va_P (dC, dI) vwCl [(b, .inr (5, [.ref ro, .null, .null, .int 0, .int 0])), (ro, .inr (4, [.ref b0, .ref b1, .ref b2, .ref b3, .ref b4, .ref b5, .ref b6, .ref b7, .ref b8])), (b0, .inl (cA 0, 8, .inl (lz 8))), (b1, .inl (cA 0, 39, .inl (r0 (fun _ _ => 0)))), (b2, .inl (cA 1, 39, .inr (.inl (r1 (fun _ _ => 0))))), (b3, .inl (cA 2, 39, .inl (r2 (fun _ _ => 0)))), (b4, .inl (cA 3, 39, .inl (r3 (fun _ _ => 0)))), (b5, .inl (cA 4, 39, .inl (r4 (fun _ _ => 0)))), (b6, .inl (cA 5, 39, .inl (r5 (fun _ _ => 0)))), (b7, .inl (cA 6, 39, .inr (.inr (.inl (r6 (fun _ _ => 0)))))), (b8, .inl (cA 7, 39, .inr (.inr (.inr (.inl (r7 (fun _ _ => 0)))))))] H := hP
  have hD : va_D A [(b, .inr (5, [.ref ro, .null, .null, .int 0, .int 0])), (ro, .inr (4, [.ref b0, .ref b1, .ref b2, .ref b3, .ref b4, .ref b5, .ref b6, .ref b7, .ref b8])), (b0, .inl (cA 0, 8, .inl (lz 8))), (b1, .inl (cA 0, 39, .inl (r0 (fun _ _ => 0)))), (b2, .inl (cA 1, 39, .inr (.inl (r1 (fun _ _ => 0))))), (b3, .inl (cA 2, 39, .inl (r2 (fun _ _ => 0)))), (b4, .inl (cA 3, 39, .inl (r3 (fun _ _ => 0)))), (b5, .inl (cA 4, 39, .inl (r4 (fun _ _ => 0)))), (b6, .inl (cA 5, 39, .inl (r5 (fun _ _ => 0)))), (b7, .inl (cA 6, 39, .inr (.inr (.inl (r6 (fun _ _ => 0)))))), (b8, .inl (cA 7, 39, .inr (.inr (.inr (.inl (r7 (fun _ _ => 0)))))))] := hD
  refine lv_aload_n hx hb dX5_init_15 rfl (lv_at hl 0 rfl) ?_
  refine va_new (C := RX3) (T := TX3) (N := 4) (ci := 3) (fs := [.null, .int 0, .int 0, .int 0]) hx hb (ly_3 h hb0) (fun _ z => z) tyX3 tyX3_ok hown (k_68 h hb0) (k_69 h hb0) (k_3 h hb0) hK hP hD hS hA rfl dfX3 (Nat.le_of_ble_eq_true rfl) (Nat.le_of_ble_eq_true rfl) dX5_init_16 (fun gr H hP hD hS => ?_)
  have hP : va_P (dC, dI) vwCl [(b, .inr (5, [.ref ro, .null, .null, .int 0, .int 0])), (ro, .inr (4, [.ref b0, .ref b1, .ref b2, .ref b3, .ref b4, .ref b5, .ref b6, .ref b7, .ref b8])), (b0, .inl (cA 0, 8, .inl (lz 8))), (b1, .inl (cA 0, 39, .inl (r0 (fun _ _ => 0)))), (b2, .inl (cA 1, 39, .inr (.inl (r1 (fun _ _ => 0))))), (b3, .inl (cA 2, 39, .inl (r2 (fun _ _ => 0)))), (b4, .inl (cA 3, 39, .inl (r3 (fun _ _ => 0)))), (b5, .inl (cA 4, 39, .inl (r4 (fun _ _ => 0)))), (b6, .inl (cA 5, 39, .inl (r5 (fun _ _ => 0)))), (b7, .inl (cA 6, 39, .inr (.inr (.inl (r6 (fun _ _ => 0)))))), (b8, .inl (cA 7, 39, .inr (.inr (.inr (.inl (r7 (fun _ _ => 0))))))), (gr, .inr (3, [.null, .int 0, .int 0, .int 0]))] H := hP
  have hD : va_D A [(b, .inr (5, [.ref ro, .null, .null, .int 0, .int 0])), (ro, .inr (4, [.ref b0, .ref b1, .ref b2, .ref b3, .ref b4, .ref b5, .ref b6, .ref b7, .ref b8])), (b0, .inl (cA 0, 8, .inl (lz 8))), (b1, .inl (cA 0, 39, .inl (r0 (fun _ _ => 0)))), (b2, .inl (cA 1, 39, .inr (.inl (r1 (fun _ _ => 0))))), (b3, .inl (cA 2, 39, .inl (r2 (fun _ _ => 0)))), (b4, .inl (cA 3, 39, .inl (r3 (fun _ _ => 0)))), (b5, .inl (cA 4, 39, .inl (r4 (fun _ _ => 0)))), (b6, .inl (cA 5, 39, .inl (r5 (fun _ _ => 0)))), (b7, .inl (cA 6, 39, .inr (.inr (.inl (r6 (fun _ _ => 0)))))), (b8, .inl (cA 7, 39, .inr (.inr (.inr (.inl (r7 (fun _ _ => 0))))))), (gr, .inr (3, [.null, .int 0, .int 0, .int 0]))] := hD
  refine lv_dup hx hb dX5_init_19 rfl ?_
  refine xm_of (wc := [(gr, .inr (3, [.null, .int 0, .int 0, .int 0]))]) (wo := [(b, .inr (5, [.ref ro, .null, .null, .int 0, .int 0])), (ro, .inr (4, [.ref b0, .ref b1, .ref b2, .ref b3, .ref b4, .ref b5, .ref b6, .ref b7, .ref b8])), (b0, .inl (cA 0, 8, .inl (lz 8))), (b1, .inl (cA 0, 39, .inl (r0 (fun _ _ => 0)))), (b2, .inl (cA 1, 39, .inr (.inl (r1 (fun _ _ => 0))))), (b3, .inl (cA 2, 39, .inl (r2 (fun _ _ => 0)))), (b4, .inl (cA 3, 39, .inl (r3 (fun _ _ => 0)))), (b5, .inl (cA 4, 39, .inl (r4 (fun _ _ => 0)))), (b6, .inl (cA 5, 39, .inl (r5 (fun _ _ => 0)))), (b7, .inl (cA 6, 39, .inr (.inr (.inl (r6 (fun _ _ => 0)))))), (b8, .inl (cA 7, 39, .inr (.inr (.inr (.inl (r7 (fun _ _ => 0)))))))]) (va_runI (As := []) (rest := [.ref gr, .ref b]) ⟨hx, hb, hml, hown, xTs⟩ (c_gridInit h gr _) ⟨xB (n := 0) (k_72 h hb0) (k_3 h hb0) (k_70 h hb0) (by decide) rfl rfl rfl (by decide) (by decide), rfl, (k_71 h hb0)⟩ (xpMS (As := [.ref gr]) (wr := []) (wc := [(gr, .inr (3, [.null, .int 0, .int 0, .int 0]))]) hb0 hS hz (va_P.sub hP [] rfl) (va_P.sub hP [11] rfl) (va_D.sub (hwk _ hD) [11] rfl rfl)) rfl rfl hl.1 rfl (lv_room (Nat.le_of_ble_eq_true rfl)) dX5_init_20 ⟨(Nat.le_of_ble_eq_true rfl), (Nat.le_of_ble_eq_true rfl)⟩) hP hD hS hA [11] [0, 1, 2, 3, 4, 5, 6, 7, 8, 9, 10] rfl rfl rfl (by decide) (fun r w1 H locs hΦ hP hD hS => ?_)
  obtain ⟨gc, ga, rfl, rfl⟩ := hΦ
  have hP : va_P (dC, dI) vwCl ([(b, .inr (5, [.ref ro, .null, .null, .int 0, .int 0])), (ro, .inr (4, [.ref b0, .ref b1, .ref b2, .ref b3, .ref b4, .ref b5, .ref b6, .ref b7, .ref b8])), (b0, .inl (cA 0, 8, .inl (lz 8))), (b1, .inl (cA 0, 39, .inl (r0 (fun _ _ => 0)))), (b2, .inl (cA 1, 39, .inr (.inl (r1 (fun _ _ => 0))))), (b3, .inl (cA 2, 39, .inl (r2 (fun _ _ => 0)))), (b4, .inl (cA 3, 39, .inl (r3 (fun _ _ => 0)))), (b5, .inl (cA 4, 39, .inl (r4 (fun _ _ => 0)))), (b6, .inl (cA 5, 39, .inl (r5 (fun _ _ => 0)))), (b7, .inl (cA 6, 39, .inr (.inr (.inl (r6 (fun _ _ => 0)))))), (b8, .inl (cA 7, 39, .inr (.inr (.inr (.inl (r7 (fun _ _ => 0))))))), (gr, .inr (3, [.ref gc, .int 0, .int 0, .int 0])), (gc, .inl (cA 9, 8, .inr (.inr (.inr (.inr (fun i => some (ga i)))))))] ++ rws (cA 0) ga (gmx 8 0)) H := hP
  have hD : va_D A ([(b, .inr (5, [.ref ro, .null, .null, .int 0, .int 0])), (ro, .inr (4, [.ref b0, .ref b1, .ref b2, .ref b3, .ref b4, .ref b5, .ref b6, .ref b7, .ref b8])), (b0, .inl (cA 0, 8, .inl (lz 8))), (b1, .inl (cA 0, 39, .inl (r0 (fun _ _ => 0)))), (b2, .inl (cA 1, 39, .inr (.inl (r1 (fun _ _ => 0))))), (b3, .inl (cA 2, 39, .inl (r2 (fun _ _ => 0)))), (b4, .inl (cA 3, 39, .inl (r3 (fun _ _ => 0)))), (b5, .inl (cA 4, 39, .inl (r4 (fun _ _ => 0)))), (b6, .inl (cA 5, 39, .inl (r5 (fun _ _ => 0)))), (b7, .inl (cA 6, 39, .inr (.inr (.inl (r6 (fun _ _ => 0)))))), (b8, .inl (cA 7, 39, .inr (.inr (.inr (.inl (r7 (fun _ _ => 0))))))), (gr, .inr (3, [.ref gc, .int 0, .int 0, .int 0])), (gc, .inl (cA 9, 8, .inr (.inr (.inr (.inr (fun i => some (ga i)))))))] ++ rws (cA 0) ga (gmx 8 0)) := hD
  refine va_putF (D := (dC, dI)) (ci := 5) (v := .ref gr) (ty := .object "FaultBench$Grid") (C := RX5) (T := TX5) (N := 5) hx hb (ly_5 h hb0) (fun _ z => z) tyX5 tyX5_ok nmX5 hown hK hP hD hS 0 rfl rfl 1 (by decide) (k_111 h hb0) (fun _ z => z) rfl hin rfl (by decide +kernel) rfl rfl (Nat.le_of_ble_eq_true rfl) dX5_init_23 (fun H locs hP hD hS => ?_)
  have hP : va_P (dC, dI) vwCl ([(b, .inr (5, [.ref ro, .ref gr, .null, .int 0, .int 0])), (ro, .inr (4, [.ref b0, .ref b1, .ref b2, .ref b3, .ref b4, .ref b5, .ref b6, .ref b7, .ref b8])), (b0, .inl (cA 0, 8, .inl (lz 8))), (b1, .inl (cA 0, 39, .inl (r0 (fun _ _ => 0)))), (b2, .inl (cA 1, 39, .inr (.inl (r1 (fun _ _ => 0))))), (b3, .inl (cA 2, 39, .inl (r2 (fun _ _ => 0)))), (b4, .inl (cA 3, 39, .inl (r3 (fun _ _ => 0)))), (b5, .inl (cA 4, 39, .inl (r4 (fun _ _ => 0)))), (b6, .inl (cA 5, 39, .inl (r5 (fun _ _ => 0)))), (b7, .inl (cA 6, 39, .inr (.inr (.inl (r6 (fun _ _ => 0)))))), (b8, .inl (cA 7, 39, .inr (.inr (.inr (.inl (r7 (fun _ _ => 0))))))), (gr, .inr (3, [.ref gc, .int 0, .int 0, .int 0])), (gc, .inl (cA 9, 8, .inr (.inr (.inr (.inr (fun i => some (ga i)))))))] ++ rws (cA 0) ga (gmx 8 0)) H := hP
  have hD : va_D A ([(b, .inr (5, [.ref ro, .ref gr, .null, .int 0, .int 0])), (ro, .inr (4, [.ref b0, .ref b1, .ref b2, .ref b3, .ref b4, .ref b5, .ref b6, .ref b7, .ref b8])), (b0, .inl (cA 0, 8, .inl (lz 8))), (b1, .inl (cA 0, 39, .inl (r0 (fun _ _ => 0)))), (b2, .inl (cA 1, 39, .inr (.inl (r1 (fun _ _ => 0))))), (b3, .inl (cA 2, 39, .inl (r2 (fun _ _ => 0)))), (b4, .inl (cA 3, 39, .inl (r3 (fun _ _ => 0)))), (b5, .inl (cA 4, 39, .inl (r4 (fun _ _ => 0)))), (b6, .inl (cA 5, 39, .inl (r5 (fun _ _ => 0)))), (b7, .inl (cA 6, 39, .inr (.inr (.inl (r6 (fun _ _ => 0)))))), (b8, .inl (cA 7, 39, .inr (.inr (.inr (.inl (r7 (fun _ _ => 0))))))), (gr, .inr (3, [.ref gc, .int 0, .int 0, .int 0])), (gc, .inl (cA 9, 8, .inr (.inr (.inr (.inr (fun i => some (ga i)))))))] ++ rws (cA 0) ga (gmx 8 0)) := hD
  refine lv_aload_n hx hb dX5_init_26 rfl (lv_at hl 0 rfl) ?_
  refine va_new (C := RX1) (T := TX1) (N := 4) (ci := 1) (fs := [.null, .int 0, .int 0, .int 0]) hx hb (ly_1 h hb0) (fun _ z => z) tyX1 tyX1_ok hown (k_89 h hb0) (k_90 h hb0) (k_4 h hb0) hK hP hD hS hA rfl dfX1 (Nat.le_of_ble_eq_true rfl) (Nat.le_of_ble_eq_true rfl) dX5_init_27 (fun br H hP hD hS => ?_)
  have hP := va_P.swap hP
  have hD := va_D.swap hD
  have hP : va_P (dC, dI) vwCl ([(b, .inr (5, [.ref ro, .ref gr, .null, .int 0, .int 0])), (ro, .inr (4, [.ref b0, .ref b1, .ref b2, .ref b3, .ref b4, .ref b5, .ref b6, .ref b7, .ref b8])), (b0, .inl (cA 0, 8, .inl (lz 8))), (b1, .inl (cA 0, 39, .inl (r0 (fun _ _ => 0)))), (b2, .inl (cA 1, 39, .inr (.inl (r1 (fun _ _ => 0))))), (b3, .inl (cA 2, 39, .inl (r2 (fun _ _ => 0)))), (b4, .inl (cA 3, 39, .inl (r3 (fun _ _ => 0)))), (b5, .inl (cA 4, 39, .inl (r4 (fun _ _ => 0)))), (b6, .inl (cA 5, 39, .inl (r5 (fun _ _ => 0)))), (b7, .inl (cA 6, 39, .inr (.inr (.inl (r6 (fun _ _ => 0)))))), (b8, .inl (cA 7, 39, .inr (.inr (.inr (.inl (r7 (fun _ _ => 0))))))), (gr, .inr (3, [.ref gc, .int 0, .int 0, .int 0])), (gc, .inl (cA 9, 8, .inr (.inr (.inr (.inr (fun i => some (ga i))))))), (br, .inr (1, [.null, .int 0, .int 0, .int 0]))] ++ rws (cA 0) ga (gmx 8 0)) H := hP
  have hD : va_D A ([(b, .inr (5, [.ref ro, .ref gr, .null, .int 0, .int 0])), (ro, .inr (4, [.ref b0, .ref b1, .ref b2, .ref b3, .ref b4, .ref b5, .ref b6, .ref b7, .ref b8])), (b0, .inl (cA 0, 8, .inl (lz 8))), (b1, .inl (cA 0, 39, .inl (r0 (fun _ _ => 0)))), (b2, .inl (cA 1, 39, .inr (.inl (r1 (fun _ _ => 0))))), (b3, .inl (cA 2, 39, .inl (r2 (fun _ _ => 0)))), (b4, .inl (cA 3, 39, .inl (r3 (fun _ _ => 0)))), (b5, .inl (cA 4, 39, .inl (r4 (fun _ _ => 0)))), (b6, .inl (cA 5, 39, .inl (r5 (fun _ _ => 0)))), (b7, .inl (cA 6, 39, .inr (.inr (.inl (r6 (fun _ _ => 0)))))), (b8, .inl (cA 7, 39, .inr (.inr (.inr (.inl (r7 (fun _ _ => 0))))))), (gr, .inr (3, [.ref gc, .int 0, .int 0, .int 0])), (gc, .inl (cA 9, 8, .inr (.inr (.inr (.inr (fun i => some (ga i))))))), (br, .inr (1, [.null, .int 0, .int 0, .int 0]))] ++ rws (cA 0) ga (gmx 8 0)) := hD
  refine lv_dup hx hb dX5_init_30 rfl ?_
  refine xm_ofQ (X9 := [(b, .inr (5, [.ref ro, .ref gr, .null, .int 0, .int 0])), (ro, .inr (4, [.ref b0, .ref b1, .ref b2, .ref b3, .ref b4, .ref b5, .ref b6, .ref b7, .ref b8])), (b0, .inl (cA 0, 8, .inl (lz 8))), (b1, .inl (cA 0, 39, .inl (r0 (fun _ _ => 0)))), (b2, .inl (cA 1, 39, .inr (.inl (r1 (fun _ _ => 0))))), (b3, .inl (cA 2, 39, .inl (r2 (fun _ _ => 0)))), (b4, .inl (cA 3, 39, .inl (r3 (fun _ _ => 0)))), (b5, .inl (cA 4, 39, .inl (r4 (fun _ _ => 0)))), (b6, .inl (cA 5, 39, .inl (r5 (fun _ _ => 0)))), (b7, .inl (cA 6, 39, .inr (.inr (.inl (r6 (fun _ _ => 0)))))), (b8, .inl (cA 7, 39, .inr (.inr (.inr (.inl (r7 (fun _ _ => 0))))))), (gr, .inr (3, [.ref gc, .int 0, .int 0, .int 0])), (gc, .inl (cA 9, 8, .inr (.inr (.inr (.inr (fun i => some (ga i))))))), (br, .inr (1, [.null, .int 0, .int 0, .int 0]))]) (pl := rws (cA 0) ga (gmx 8 0)) (wc := [(br, .inr (1, [.null, .int 0, .int 0, .int 0]))]) (wo := [(b, .inr (5, [.ref ro, .ref gr, .null, .int 0, .int 0])), (ro, .inr (4, [.ref b0, .ref b1, .ref b2, .ref b3, .ref b4, .ref b5, .ref b6, .ref b7, .ref b8])), (b0, .inl (cA 0, 8, .inl (lz 8))), (b1, .inl (cA 0, 39, .inl (r0 (fun _ _ => 0)))), (b2, .inl (cA 1, 39, .inr (.inl (r1 (fun _ _ => 0))))), (b3, .inl (cA 2, 39, .inl (r2 (fun _ _ => 0)))), (b4, .inl (cA 3, 39, .inl (r3 (fun _ _ => 0)))), (b5, .inl (cA 4, 39, .inl (r4 (fun _ _ => 0)))), (b6, .inl (cA 5, 39, .inl (r5 (fun _ _ => 0)))), (b7, .inl (cA 6, 39, .inr (.inr (.inl (r6 (fun _ _ => 0)))))), (b8, .inl (cA 7, 39, .inr (.inr (.inr (.inl (r7 (fun _ _ => 0))))))), (gr, .inr (3, [.ref gc, .int 0, .int 0, .int 0])), (gc, .inl (cA 9, 8, .inr (.inr (.inr (.inr (fun i => some (ga i)))))))]) (va_runIN (As := []) (rest := [.ref br, .ref b]) ⟨hx, hb, hml, hown, xTs⟩ (c_brInit h br _) ⟨xCN (n := 0) (k_93 h hb0) (k_4 h hb0) (k_91 h hb0) (by decide) rfl rfl rfl (by decide) (by decide), rfl, (k_92 h hb0)⟩ (xpMS (As := [.ref br]) (wr := []) (wc := [(br, .inr (1, [.null, .int 0, .int 0, .int 0]))]) hb0 hS hz (va_P.sub hP [] rfl) (va_P.sub hP [13] rfl) (va_D.sub (hwk _ hD) [13] rfl rfl)) rfl rfl hl.1 rfl (lv_room (Nat.le_of_ble_eq_true rfl)) dX5_init_31 ⟨(Nat.le_of_ble_eq_true rfl), (Nat.le_of_ble_eq_true rfl)⟩) hP hD hS hA [13] [0, 1, 2, 3, 4, 5, 6, 7, 8, 9, 10, 11, 12] rfl rfl rfl (by decide) (fun r w1 H locs hΦ hP hD hS => ?_)
  obtain ⟨pl, rfl, rfl⟩ := hΦ
  have hP : va_P (dC, dI) vwCl ([(b, .inr (5, [.ref ro, .ref gr, .null, .int 0, .int 0])), (ro, .inr (4, [.ref b0, .ref b1, .ref b2, .ref b3, .ref b4, .ref b5, .ref b6, .ref b7, .ref b8])), (b0, .inl (cA 0, 8, .inl (lz 8))), (b1, .inl (cA 0, 39, .inl (r0 (fun _ _ => 0)))), (b2, .inl (cA 1, 39, .inr (.inl (r1 (fun _ _ => 0))))), (b3, .inl (cA 2, 39, .inl (r2 (fun _ _ => 0)))), (b4, .inl (cA 3, 39, .inl (r3 (fun _ _ => 0)))), (b5, .inl (cA 4, 39, .inl (r4 (fun _ _ => 0)))), (b6, .inl (cA 5, 39, .inl (r5 (fun _ _ => 0)))), (b7, .inl (cA 6, 39, .inr (.inr (.inl (r6 (fun _ _ => 0)))))), (b8, .inl (cA 7, 39, .inr (.inr (.inr (.inl (r7 (fun _ _ => 0))))))), (gr, .inr (3, [.ref gc, .int 0, .int 0, .int 0])), (gc, .inl (cA 9, 8, .inr (.inr (.inr (.inr (fun i => some (ga i))))))), (br, .inr (1, [.ref pl, .int 0, .int 0, .int 0])), (pl, .inl (cA 8, 19, .inr (.inr (.inr (.inr (fun _ => none))))))] ++ rws (cA 0) ga (gmx 8 0)) H := hP
  have hD : va_D A ([(b, .inr (5, [.ref ro, .ref gr, .null, .int 0, .int 0])), (ro, .inr (4, [.ref b0, .ref b1, .ref b2, .ref b3, .ref b4, .ref b5, .ref b6, .ref b7, .ref b8])), (b0, .inl (cA 0, 8, .inl (lz 8))), (b1, .inl (cA 0, 39, .inl (r0 (fun _ _ => 0)))), (b2, .inl (cA 1, 39, .inr (.inl (r1 (fun _ _ => 0))))), (b3, .inl (cA 2, 39, .inl (r2 (fun _ _ => 0)))), (b4, .inl (cA 3, 39, .inl (r3 (fun _ _ => 0)))), (b5, .inl (cA 4, 39, .inl (r4 (fun _ _ => 0)))), (b6, .inl (cA 5, 39, .inl (r5 (fun _ _ => 0)))), (b7, .inl (cA 6, 39, .inr (.inr (.inl (r6 (fun _ _ => 0)))))), (b8, .inl (cA 7, 39, .inr (.inr (.inr (.inl (r7 (fun _ _ => 0))))))), (gr, .inr (3, [.ref gc, .int 0, .int 0, .int 0])), (gc, .inl (cA 9, 8, .inr (.inr (.inr (.inr (fun i => some (ga i))))))), (br, .inr (1, [.ref pl, .int 0, .int 0, .int 0])), (pl, .inl (cA 8, 19, .inr (.inr (.inr (.inr (fun _ => none))))))] ++ rws (cA 0) ga (gmx 8 0)) := hD
  refine va_putF (D := (dC, dI)) (ci := 5) (v := .ref br) (ty := .object "FaultBench$BoxRow") (C := RX5) (T := TX5) (N := 5) hx hb (ly_5 h hb0) (fun _ z => z) tyX5 tyX5_ok nmX5 hown hK hP hD hS 0 rfl rfl 2 (by decide) (k_112 h hb0) (fun _ z => z) rfl hin rfl (by decide +kernel) rfl rfl (Nat.le_of_ble_eq_true rfl) dX5_init_34 (fun H locs hP hD hS => ?_)
  have hP : va_P (dC, dI) vwCl ([(b, .inr (5, [.ref ro, .ref gr, .ref br, .int 0, .int 0])), (ro, .inr (4, [.ref b0, .ref b1, .ref b2, .ref b3, .ref b4, .ref b5, .ref b6, .ref b7, .ref b8])), (b0, .inl (cA 0, 8, .inl (lz 8))), (b1, .inl (cA 0, 39, .inl (r0 (fun _ _ => 0)))), (b2, .inl (cA 1, 39, .inr (.inl (r1 (fun _ _ => 0))))), (b3, .inl (cA 2, 39, .inl (r2 (fun _ _ => 0)))), (b4, .inl (cA 3, 39, .inl (r3 (fun _ _ => 0)))), (b5, .inl (cA 4, 39, .inl (r4 (fun _ _ => 0)))), (b6, .inl (cA 5, 39, .inl (r5 (fun _ _ => 0)))), (b7, .inl (cA 6, 39, .inr (.inr (.inl (r6 (fun _ _ => 0)))))), (b8, .inl (cA 7, 39, .inr (.inr (.inr (.inl (r7 (fun _ _ => 0))))))), (gr, .inr (3, [.ref gc, .int 0, .int 0, .int 0])), (gc, .inl (cA 9, 8, .inr (.inr (.inr (.inr (fun i => some (ga i))))))), (br, .inr (1, [.ref pl, .int 0, .int 0, .int 0])), (pl, .inl (cA 8, 19, .inr (.inr (.inr (.inr (fun _ => none))))))] ++ rws (cA 0) ga (gmx 8 0)) H := hP
  have hD : va_D A ([(b, .inr (5, [.ref ro, .ref gr, .ref br, .int 0, .int 0])), (ro, .inr (4, [.ref b0, .ref b1, .ref b2, .ref b3, .ref b4, .ref b5, .ref b6, .ref b7, .ref b8])), (b0, .inl (cA 0, 8, .inl (lz 8))), (b1, .inl (cA 0, 39, .inl (r0 (fun _ _ => 0)))), (b2, .inl (cA 1, 39, .inr (.inl (r1 (fun _ _ => 0))))), (b3, .inl (cA 2, 39, .inl (r2 (fun _ _ => 0)))), (b4, .inl (cA 3, 39, .inl (r3 (fun _ _ => 0)))), (b5, .inl (cA 4, 39, .inl (r4 (fun _ _ => 0)))), (b6, .inl (cA 5, 39, .inl (r5 (fun _ _ => 0)))), (b7, .inl (cA 6, 39, .inr (.inr (.inl (r6 (fun _ _ => 0)))))), (b8, .inl (cA 7, 39, .inr (.inr (.inr (.inl (r7 (fun _ _ => 0))))))), (gr, .inr (3, [.ref gc, .int 0, .int 0, .int 0])), (gc, .inl (cA 9, 8, .inr (.inr (.inr (.inr (fun i => some (ga i))))))), (br, .inr (1, [.ref pl, .int 0, .int 0, .int 0])), (pl, .inl (cA 8, 19, .inr (.inr (.inr (.inr (fun _ => none))))))] ++ rws (cA 0) ga (gmx 8 0)) := hD
  refine lv_aload_n hx hb dX5_init_37 rfl (lv_at hl 0 rfl) ?_
  refine lv_iconst (v := 0) hx hb dX5_init_38 (by decide) ?_
  refine va_put (D := (dC, dI)) (ci := 5) (v := .int 0) (ty := .int) (C := RX5) (T := TX5) (N := 5) hx hb (ly_5 h hb0) (fun _ z => z) tyX5 tyX5_ok nmX5 hown hK hP hD hS 0 rfl rfl 3 (by decide) (k_113 h hb0) (fun _ z => z) rfl (by decide +kernel) rfl rfl (Nat.le_of_ble_eq_true rfl) dX5_init_39 (fun H locs hP hD hS => ?_)
  have hP : va_P (dC, dI) vwCl ([(b, .inr (5, [.ref ro, .ref gr, .ref br, .int 0, .int 0])), (ro, .inr (4, [.ref b0, .ref b1, .ref b2, .ref b3, .ref b4, .ref b5, .ref b6, .ref b7, .ref b8])), (b0, .inl (cA 0, 8, .inl (lz 8))), (b1, .inl (cA 0, 39, .inl (r0 (fun _ _ => 0)))), (b2, .inl (cA 1, 39, .inr (.inl (r1 (fun _ _ => 0))))), (b3, .inl (cA 2, 39, .inl (r2 (fun _ _ => 0)))), (b4, .inl (cA 3, 39, .inl (r3 (fun _ _ => 0)))), (b5, .inl (cA 4, 39, .inl (r4 (fun _ _ => 0)))), (b6, .inl (cA 5, 39, .inl (r5 (fun _ _ => 0)))), (b7, .inl (cA 6, 39, .inr (.inr (.inl (r6 (fun _ _ => 0)))))), (b8, .inl (cA 7, 39, .inr (.inr (.inr (.inl (r7 (fun _ _ => 0))))))), (gr, .inr (3, [.ref gc, .int 0, .int 0, .int 0])), (gc, .inl (cA 9, 8, .inr (.inr (.inr (.inr (fun i => some (ga i))))))), (br, .inr (1, [.ref pl, .int 0, .int 0, .int 0])), (pl, .inl (cA 8, 19, .inr (.inr (.inr (.inr (fun _ => none))))))] ++ rws (cA 0) ga (gmx 8 0)) H := hP
  have hD : va_D A ([(b, .inr (5, [.ref ro, .ref gr, .ref br, .int 0, .int 0])), (ro, .inr (4, [.ref b0, .ref b1, .ref b2, .ref b3, .ref b4, .ref b5, .ref b6, .ref b7, .ref b8])), (b0, .inl (cA 0, 8, .inl (lz 8))), (b1, .inl (cA 0, 39, .inl (r0 (fun _ _ => 0)))), (b2, .inl (cA 1, 39, .inr (.inl (r1 (fun _ _ => 0))))), (b3, .inl (cA 2, 39, .inl (r2 (fun _ _ => 0)))), (b4, .inl (cA 3, 39, .inl (r3 (fun _ _ => 0)))), (b5, .inl (cA 4, 39, .inl (r4 (fun _ _ => 0)))), (b6, .inl (cA 5, 39, .inl (r5 (fun _ _ => 0)))), (b7, .inl (cA 6, 39, .inr (.inr (.inl (r6 (fun _ _ => 0)))))), (b8, .inl (cA 7, 39, .inr (.inr (.inr (.inl (r7 (fun _ _ => 0))))))), (gr, .inr (3, [.ref gc, .int 0, .int 0, .int 0])), (gc, .inl (cA 9, 8, .inr (.inr (.inr (.inr (fun i => some (ga i))))))), (br, .inr (1, [.ref pl, .int 0, .int 0, .int 0])), (pl, .inl (cA 8, 19, .inr (.inr (.inr (.inr (fun _ => none))))))] ++ rws (cA 0) ga (gmx 8 0)) := hD
  refine lv_aload_n hx hb dX5_init_42 rfl (lv_at hl 0 rfl) ?_
  refine lv_iconst (v := 0) hx hb dX5_init_43 (by decide) ?_
  refine va_put (D := (dC, dI)) (ci := 5) (v := .int 0) (ty := .int) (C := RX5) (T := TX5) (N := 5) hx hb (ly_5 h hb0) (fun _ z => z) tyX5 tyX5_ok nmX5 hown hK hP hD hS 0 rfl rfl 4 (by decide) (k_114 h hb0) (fun _ z => z) rfl (by decide +kernel) rfl rfl (Nat.le_of_ble_eq_true rfl) dX5_init_44 (fun H locs hP hD hS => ?_)
  have hP : va_P (dC, dI) vwCl ([(b, .inr (5, [.ref ro, .ref gr, .ref br, .int 0, .int 0])), (ro, .inr (4, [.ref b0, .ref b1, .ref b2, .ref b3, .ref b4, .ref b5, .ref b6, .ref b7, .ref b8])), (b0, .inl (cA 0, 8, .inl (lz 8))), (b1, .inl (cA 0, 39, .inl (r0 (fun _ _ => 0)))), (b2, .inl (cA 1, 39, .inr (.inl (r1 (fun _ _ => 0))))), (b3, .inl (cA 2, 39, .inl (r2 (fun _ _ => 0)))), (b4, .inl (cA 3, 39, .inl (r3 (fun _ _ => 0)))), (b5, .inl (cA 4, 39, .inl (r4 (fun _ _ => 0)))), (b6, .inl (cA 5, 39, .inl (r5 (fun _ _ => 0)))), (b7, .inl (cA 6, 39, .inr (.inr (.inl (r6 (fun _ _ => 0)))))), (b8, .inl (cA 7, 39, .inr (.inr (.inr (.inl (r7 (fun _ _ => 0))))))), (gr, .inr (3, [.ref gc, .int 0, .int 0, .int 0])), (gc, .inl (cA 9, 8, .inr (.inr (.inr (.inr (fun i => some (ga i))))))), (br, .inr (1, [.ref pl, .int 0, .int 0, .int 0])), (pl, .inl (cA 8, 19, .inr (.inr (.inr (.inr (fun _ => none))))))] ++ rws (cA 0) ga (gmx 8 0)) H := hP
  have hD : va_D A ([(b, .inr (5, [.ref ro, .ref gr, .ref br, .int 0, .int 0])), (ro, .inr (4, [.ref b0, .ref b1, .ref b2, .ref b3, .ref b4, .ref b5, .ref b6, .ref b7, .ref b8])), (b0, .inl (cA 0, 8, .inl (lz 8))), (b1, .inl (cA 0, 39, .inl (r0 (fun _ _ => 0)))), (b2, .inl (cA 1, 39, .inr (.inl (r1 (fun _ _ => 0))))), (b3, .inl (cA 2, 39, .inl (r2 (fun _ _ => 0)))), (b4, .inl (cA 3, 39, .inl (r3 (fun _ _ => 0)))), (b5, .inl (cA 4, 39, .inl (r4 (fun _ _ => 0)))), (b6, .inl (cA 5, 39, .inl (r5 (fun _ _ => 0)))), (b7, .inl (cA 6, 39, .inr (.inr (.inl (r6 (fun _ _ => 0)))))), (b8, .inl (cA 7, 39, .inr (.inr (.inr (.inl (r7 (fun _ _ => 0))))))), (gr, .inr (3, [.ref gc, .int 0, .int 0, .int 0])), (gc, .inl (cA 9, 8, .inr (.inr (.inr (.inr (fun i => some (ga i))))))), (br, .inr (1, [.ref pl, .int 0, .int 0, .int 0])), (pl, .inl (cA 8, 19, .inr (.inr (.inr (.inr (fun _ => none))))))] ++ rws (cA 0) ga (gmx 8 0)) := hD
  exact W.vret hx hb hr (fun t ht _ => ⟨none, _, rfl, ⟨ro, b0, b1, b2, b3, b4, b5, b6, b7, b8, gr, gc, br, pl, ga, rfl, rfl⟩, by rw [ht]; exact hP, hD, hS.F ht⟩) (fun q z => hS.2.2 q z) dX5_init_47
