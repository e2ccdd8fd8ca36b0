/-! Boxes are made and put. -/
theorem dfX0 : ∀ j, j < 1 → defaultValue (tyX0 j) = vp_V [.int 0] j := fun j hj => match j, hj with
  | 0, _ => rfl
theorem dfX1 : ∀ j, j < 4 → defaultValue (tyX1 j) = vp_V [.null, .int 0, .int 0, .int 0] j := fun j hj => match j, hj with
  | 0, _ => rfl
  | 1, _ => rfl
  | 2, _ => rfl
  | 3, _ => rfl
theorem dfX2 : ∀ j, j < 1 → defaultValue (tyX2 j) = vp_V [.int 0] j := fun j hj => match j, hj with
  | 0, _ => rfl
theorem dfX3 : ∀ j, j < 4 → defaultValue (tyX3 j) = vp_V [.null, .int 0, .int 0, .int 0] j := fun j hj => match j, hj with
  | 0, _ => rfl
  | 1, _ => rfl
  | 2, _ => rfl
  | 3, _ => rfl
theorem dfX4 : ∀ j, j < 9 → defaultValue (tyX4 j) = vp_V [.null, .null, .null, .null, .null, .null, .null, .null, .null] j := fun j hj => match j, hj with
  | 0, _ => rfl
  | 1, _ => rfl
  | 2, _ => rfl
  | 3, _ => rfl
  | 4, _ => rfl
  | 5, _ => rfl
  | 6, _ => rfl
  | 7, _ => rfl
  | 8, _ => rfl
theorem dfX5 : ∀ j, j < 5 → defaultValue (tyX5 j) = vp_V [.null, .null, .null, .int 0, .int 0] j := fun j hj => match j, hj with
  | 0, _ => rfl
  | 1, _ => rfl
  | 2, _ => rfl
  | 3, _ => rfl
  | 4, _ => rfl
theorem dfX6 : ∀ j, j < 13 → defaultValue (tyX6 j) = vp_V [.int 0, .null, .null, .int 0, .int 0, .int 0, .int 0, .int 0, .int 0, .int 0, .int 0, .null, .null] j := fun j hj => match j, hj with
  | 0, _ => rfl
  | 1, _ => rfl
  | 2, _ => rfl
  | 3, _ => rfl
  | 4, _ => rfl
  | 5, _ => rfl
  | 6, _ => rfl
  | 7, _ => rfl
  | 8, _ => rfl
  | 9, _ => rfl
  | 10, _ => rfl
  | 11, _ => rfl
  | 12, _ => rfl
section XPA
variable {R : Room} {s : State} {args : Array Value}
theorem xCU {own C owner : String} {index n maxL mc ms : Nat} {x y : MethodName} {bytes : ByteArray} {ret : Option FieldType} {rm : Room} (hcode : (Cond.code y bytes maxL ret).before args s = true) (hini : (Cond.initialized y.cls).before args s = true) (hl : (Cond.methodLink own index x).before args s = true)
    (hsm : (Cond.sameMethod x.cls owner x.name x.desc).before args s = true) (hdc : va_Decl s ⟨owner, x.name, x.desc⟩) (hsl : (Cond.selects C x y).before args s = true) (hin : (Cond.instanceMethod y).before args s = true)
    (hd : owner ≠ "java/lang/invoke/MethodHandle" ∧ owner ≠ "java/lang/invoke/VarHandle") (hn : (parseMethodDescriptor x.desc).map (fun d => d.parameters.length) = some n) (hrc : rm.cells = mc) (hrs : rm.slots = ms) (hR : rm.frames + 1 ≤ R.frames) (hR2 : 8 + (maxL + 11) + rm.locals ≤ R.locals) :
    va_CU R s args own C owner index x y bytes maxL ret [.code y bytes maxL ret] rm mc ms n := by
  refine ⟨⟨hrc, hrs, hR, hR2, fun w hw a' U hW => ?_, List.mem_cons_self⟩, hcode, hini, hd, fun sig h => ?_, hl, hsm, hdc, hsl, hin⟩
  · rw [List.mem_singleton] at hw
    rw [hw]
    exact xg_at hW rfl hcode
  · rw [h] at hn
    exact (Option.some.inj hn).symm
end XPA
/-- after a call that only made new cells: what was there is there -/
theorem xkeep {D : va_G} {ws : va_W} {H0 H : Heap} {A : Nat → Prop} {locs : List Loc} (hP : va_P D vwCl ws H0) (hS : va_S A H0 H locs) (hA : ∀ q, A q → H0.size ≤ q) : va_P D vwCl ws H := hP.kept (fun k q hq => hS.2.1 q.1 (hP k q hq).lt (fun z => absurd (hP k q hq).lt (Nat.not_lt.mpr (hA _ z))))
theorem xnew_A {sz q : Nat} (h : va_A [] sz q) : sz ≤ q := by
  rcases h with ⟨k, e, h⟩ | h
  · cases h
  · exact h
theorem xD_nil {A : Nat → Prop} : va_D A [] := ⟨fun i j p q h => (nomatch h), fun k q h => (nomatch h)⟩
set_option maxHeartbeats 4000000 in
set_option maxRecDepth 100000 in
theorem c_weigh_2 {l : Launch} {s0 : State} {a0 : Array Value} {dC : Nat → ClassId} {dI : Nat → Nat → Nat} {cA : Nat → ClassId} (h : xC l s0 a0 dC dI cA) (b gr br : Nat) (wr ca : Int32) (ro pl : Nat) (z1 z2 z3 p1 : Int32) (f : Nat → Option Nat) (p2 : Int32) (a : Nat) (v : Int32) (hm : z1 = 0 ∨ z1 = 1) (ht : ¬ z1 = 0) (h0 : ¬ p1 < 0) (h1 : p1 < z3) (hi : vp_in p1 19) (hf : f p1.toNatClampNeg = some a) : Met l yX5_weigh [Cond.code yX5_weigh cX5_weigh 3 (some .int)] ({ frames := 2, cells := 0, slots := 0, locals := 80 } : Room) (xP s0 (dC, dI) [.ref b, .int p1, .int p2] [(b, .inr (5, [.ref ro, .ref gr, .ref br, .int wr, .int ca])), (br, .inr (1, [.ref pl, .int z1, .int z2, .int z3])), (pl, .inl (cA 8, 19, .inr (.inr (.inr (.inr f))))), (a, .inr (2, [.int v]))]) (xR (some (.int (v * 5 - p2)))) 0 0 (fun _ => False) := by
  refine Met.ofW (cc := cX5_weigh) (maxL := 3) (ret := (some .int)) (by decide) rfl ?_
  intro p e s m args below meth c s₁ B hml hv
  obtain ⟨rfl, hb0, hP⟩ := hv
  have hx := B.exec
  have hb := B.bytes
  have hr := B.returns
  have hown : s.vm.findClass RX5 = some m.cls := findClass_of_methodNamed B.named
  have hlocks := B.notSynchronized
  have hK := h.K hb0
  have hS : va_S (fun _ : Nat => False) s.heap s.heap [] := va_S.rf
  have hz : ∀ q : Nat, (fun _ : Nat => False) q → s0.heap.size ≤ q := fun _ z => z.elim
  have hl := lv_entry ([.ref b, .int p1, .int p2]) (n := 3) (Nat.le_of_ble_eq_true rfl)
  rw [lg_entry_eq]
  generalize (lg_sl ([.ref b, .int p1, .int p2]) ++ List.replicate (3 - (lg_sl ([.ref b, .int p1, .int p2])).length) Slot.unset).toArray = ls at hl ⊢
  have hl : lv_has ls 3 [(0, .ref b), (1, .int p1), (2, .int p2)] := hl
  refine lv_aload_n hx hb dX5_weigh_0 rfl (lv_at hl 0 rfl) ?_
  refine lv_iload_n hx hb dX5_weigh_1 rfl (lv_at hl 1 rfl) ?_
  refine xr_1 (va_runV (As := [.int p1]) (rest := []) ⟨hx, hb, hml, hown, xTs⟩ (c_boxAt h b gr br wr ca ro pl z1 z2 z3 p1 f a hm ht h0 h1 hi hf) ⟨xB (n := 1) (k_428 h hb0) (k_1 h hb0) (k_425 h hb0) (by decide) rfl rfl rfl (by decide) (by decide), (k_427 h hb0), (ks_2 h hb0)⟩ (xpV hb0 hS hz (va_P.sub hP [0, 1, 2] rfl) (va_recv hK hP (ci := 5) (q0 := 0) rfl rfl)) rfl rfl hl.1 rfl (lv_room (Nat.le_of_ble_eq_true rfl)) dX5_weigh_2 ⟨(Nat.le_of_ble_eq_true rfl), (Nat.le_of_ble_eq_true rfl)⟩) ?_
  refine lv_iload_n hx hb dX5_weigh_5 rfl (lv_at hl 2 rfl) ?_
  refine xr_1 (va_runU (C := RX2) (owner := "FaultBench$Box") (As := [.int p2]) (rest := []) ⟨hx, hb, hml, hown, xTs⟩ (c_weightDisc h a v p2) (xCU (n := 1) (k_454 h hb0) (k_14 h hb0) (k_448 h hb0) (k_451 h hb0) (va_Decl.of (args := #[]) (k_449 h hb0) (k_455 h hb0)) (k_452 h hb0) (k_453 h hb0) (by decide) rfl rfl rfl (by decide) (by decide)) (xpV hb0 hS hz (va_P.sub hP [3] rfl) (va_recv hK hP (ci := 2) (q0 := 3) rfl rfl)) rfl rfl hl.1 rfl (lv_room (Nat.le_of_ble_eq_true rfl)) dX5_weigh_6 ⟨(Nat.le_of_ble_eq_true rfl), (Nat.le_of_ble_eq_true rfl)⟩) ?_
  exact W.iret hx hb hr (fun t ht _ => ⟨rfl, ht⟩) (fun q z => nomatch z) dX5_weigh_9
set_option maxHeartbeats 4000000 in
set_option maxRecDepth 100000 in
theorem c_boxInit_0 {l : Launch} {s0 : State} {a0 : Array Value} {dC : Nat → ClassId} {dI : Nat → Nat → Nat} {cA : Nat → ClassId} (h : xC l s0 a0 dC dI cA) (a : Nat) (z v : Int32) (sz : Nat)  : Met l yX0_init [Cond.code yX0_init cX0_init 2 none] ({ frames := 1, cells := 0, slots := 0, locals := 40 } : Room) (xPM s0 (dC, dI) [.ref a, .int v] [] [(a, .inr (0, [.int z]))] sz) (xQM (dC, dI) (va_A [(a, .inr (0, [.int z]))] sz) (fun r w1 => r = none ∧ w1 = [(a, .inr (0, [.int v]))])) 0 0 (va_A [(a, .inr (0, [.int z]))] sz) := by
  refine Met.ofW (cc := cX0_init) (maxL := 2) (ret := none) (by decide) rfl ?_
  intro p e s m args below meth c s₁ B hml hv
  obtain ⟨rfl, rfl, hb0, hPr, hP, hD0⟩ := hv
  have hx := B.exec
  have hb := B.bytes
  have hr := B.returns
  have hown : s.vm.findClass RX0 = some m.cls := findClass_of_methodNamed B.named
  have hlocks := B.notSynchronized
  have hK := h.K hb0
  have hin : meth.name = "<init>" := (name_of_methodNamed B.named B.method).1
  have hS : va_S (va_A [(a, .inr (0, [.int z]))] s.heap.size) s.heap s.heap [] := va_S.rf
  obtain ⟨A, hAe, hD, hA, hz, hRo, hwk, hnR⟩ := xM_start hb0 hPr hP hD0
  rw [hAe] at hS ⊢
  have hl := lv_entry ([.ref a, .int v]) (n := 2) (Nat.le_of_ble_eq_true rfl)
  rw [lg_entry_eq]
  generalize (lg_sl ([.ref a, .int v]) ++ List.replicate (2 - (lg_sl ([.ref a, .int v])).length) Slot.unset).toArray = ls at hl ⊢
  have hl : lv_has ls 2 [(0, .ref a), (1, .int v)] := hl
  refine lv_aload_n hx hb dX0_init_0 rfl (lv_at hl 0 rfl) ?_
  refine W.objInit hx hb hown (k_377 h hb0) (k_24 h hb0) (k_25 h hb0) rfl (hl.1.trans hml.symm) rfl dX0_init_1 (Nat.le_of_ble_eq_true rfl) (Nat.le_of_ble_eq_true rfl) ?_
  show W _ _ _ _ _ _ _ _ _ _ _ _ _ _ _ (F0 m 4 ls [])
  refine lv_aload_n hx hb dX0_init_4 rfl (lv_at hl 0 rfl) ?_
  refine lv_iload_n hx hb dX0_init_5 rfl (lv_at hl 1 rfl) ?_
  refine va_put (D := (dC, dI)) (ci := 0) (v := .int v) (ty := .int) (C := RX0) (T := TX0) (N := 1) hx hb (ly_0 h hb0) (fun _ z => z) tyX0 tyX0_ok nmX0 hown hK hP hD hS 0 rfl rfl 0 (by decide) (k_378 h hb0) (fun _ z => z) rfl (by decide +kernel) rfl rfl (Nat.le_of_ble_eq_true rfl) dX0_init_6 (fun H locs hP hD hS => ?_)
  have hP : va_P (dC, dI) vwCl [(a, .inr (0, [.int v]))] H := hP
  have hD : va_D A [(a, .inr (0, [.int v]))] := hD
  exact W.vret hx hb hr (fun t ht _ => ⟨none, _, rfl, ⟨rfl, rfl⟩, by rw [ht]; exact hP, hD, hS.F ht⟩) (fun q z => hS.2.2 q z) dX0_init_9
set_option maxHeartbeats 4000000 in
set_option maxRecDepth 100000 in
theorem c_boxInit_2 {l : Launch} {s0 : State} {a0 : Array Value} {dC : Nat → ClassId} {dI : Nat → Nat → Nat} {cA : Nat → ClassId} (h : xC l s0 a0 dC dI cA) (a : Nat) (z v : Int32) (sz : Nat)  : Met l yX0_init [Cond.code yX0_init cX0_init 2 none] ({ frames := 1, cells := 0, slots := 0, locals := 40 } : Room) (xPM s0 (dC, dI) [.ref a, .int v] [] [(a, .inr (2, [.int z]))] sz) (xQM (dC, dI) (va_A [(a, .inr (2, [.int z]))] sz) (fun r w1 => r = none ∧ w1 = [(a, .inr (2, [.int v]))])) 0 0 (va_A [(a, .inr (2, [.int z]))] sz) := by
  refine Met.ofW (cc := cX0_init) (maxL := 2) (ret := none) (by decide) rfl ?_
  intro p e s m args below meth c s₁ B hml hv
  obtain ⟨rfl, rfl, hb0, hPr, hP, hD0⟩ := hv
  have hx := B.exec
  have hb := B.bytes
  have hr := B.returns
  have hown : s.vm.findClass RX0 = some m.cls := findClass_of_methodNamed B.named
  have hlocks := B.notSynchronized
  have hK := h.K hb0
  have hin : meth.name = "<init>" := (name_of_methodNamed B.named B.method).1
  have hS : va_S (va_A [(a, .inr (2, [.int z]))] s.heap.size) s.heap s.heap [] := va_S.rf
  obtain ⟨A, hAe, hD, hA, hz, hRo, hwk, hnR⟩ := xM_start hb0 hPr hP hD0
  rw [hAe] at hS ⊢
  have hl := lv_entry ([.ref a, .int v]) (n := 2) (Nat.le_of_ble_eq_true rfl)
  rw [lg_entry_eq]
  generalize (lg_sl ([.ref a, .int v]) ++ List.replicate (2 - (lg_sl ([.ref a, .int v])).length) Slot.unset).toArray = ls at hl ⊢
  have hl : lv_has ls 2 [(0, .ref a), (1, .int v)] := hl
  refine lv_aload_n hx hb dX0_init_0 rfl (lv_at hl 0 rfl) ?_
  refine W.objInit hx hb hown (k_377 h hb0) (k_24 h hb0) (k_25 h hb0) rfl (hl.1.trans hml.symm) rfl dX0_init_1 (Nat.le_of_ble_eq_true rfl) (Nat.le_of_ble_eq_true rfl) ?_
  show W _ _ _ _ _ _ _ _ _ _ _ _ _ _ _ (F0 m 4 ls [])
  refine lv_aload_n hx hb dX0_init_4 rfl (lv_at hl 0 rfl) ?_
  refine lv_iload_n hx hb dX0_init_5 rfl (lv_at hl 1 rfl) ?_
  refine va_put (D := (dC, dI)) (ci := 2) (v := .int v) (ty := .int) (C := RX2) (T := TX2) (N := 1) hx hb (ly_2 h hb0) (fun _ z => z) tyX2 tyX2_ok nmX2 hown hK hP hD hS 0 rfl rfl 0 (by decide) (k_378 h hb0) (fun _ z => z) rfl (by decide +kernel) rfl rfl (Nat.le_of_ble_eq_true rfl) dX0_init_6 (fun H locs hP hD hS => ?_)
  have hP : va_P (dC, dI) vwCl [(a, .inr (2, [.int v]))] H := hP
  have hD : va_D A [(a, .inr (2, [.int v]))] := hD
  exact W.vret hx hb hr (fun t ht _ => ⟨none, _, rfl, ⟨rfl, rfl⟩, by rw [ht]; exact hP, hD, hS.F ht⟩) (fun q z => hS.2.2 q z) dX0_init_9
set_option maxHeartbeats 4000000 in
set_option maxRecDepth 100000 in
theorem c_discInit {l : Launch} {s0 : State} {a0 : Array Value} {dC : Nat → ClassId} {dI : Nat → Nat → Nat} {cA : Nat → ClassId} (h : xC l s0 a0 dC dI cA) (a : Nat) (z v : Int32) (sz : Nat)  : Met l yX2_init [Cond.code yX2_init cX2_init 2 none] ({ frames := 2, cells := 0, slots := 0, locals := 80 } : Room) (xPM s0 (dC, dI) [.ref a, .int v] [] [(a, .inr (2, [.int z]))] sz) (xQM (dC, dI) (va_A [(a, .inr (2, [.int z]))] sz) (fun r w1 => r = none ∧ w1 = [(a, .inr (2, [.int v]))])) 0 0 (va_A [(a, .inr (2, [.int z]))] sz) := by
  refine Met.ofW (cc := cX2_init) (maxL := 2) (ret := none) (by decide) rfl ?_
  intro p e s m args below meth c s₁ B hml hv
  obtain ⟨rfl, rfl, hb0, hPr, hP, hD0⟩ := hv
  have hx := B.exec
  have hb := B.bytes
  have hr := B.returns
  have hown : s.vm.findClass RX2 = some m.cls := findClass_of_methodNamed B.named
  have hlocks := B.notSynchronized
  have hK := h.K hb0
  have hin : meth.name = "<init>" := (name_of_methodNamed B.named B.method).1
  have hS : va_S (va_A [(a, .inr (2, [.int z]))] s.heap.size) s.heap s.heap [] := va_S.rf
  obtain ⟨A, hAe, hD, hA, hz, hRo, hwk, hnR⟩ := xM_start hb0 hPr hP hD0
  rw [hAe] at hS ⊢
  have hl := lv_entry ([.ref a, .int v]) (n := 2) (Nat.le_of_ble_eq_true rfl)
  rw [lg_entry_eq]
  generalize (lg_sl ([.ref a, .int v]) ++ List.replicate (2 - (lg_sl ([.ref a, .int v])).length) Slot.unset).toArray = ls at hl ⊢
  have hl : lv_has ls 2 [(0, .ref a), (1, .int v)] := hl
  refine lv_aload_n hx hb dX2_init_0 rfl (lv_at hl 0 rfl) ?_
  refine lv_iload_n hx hb dX2_init_1 rfl (lv_at hl 1 rfl) ?_
  refine xm_of (wc := [(a, .inr (2, [.int z]))]) (wo := []) (va_runI (As := [.int v]) (rest := []) ⟨hx, hb, hml, hown, xTs⟩ (c_boxInit_2 h a z v _) ⟨xB (n := 1) (k_376 h hb0) (k_13 h hb0) (k_390 h hb0) (by decide) rfl rfl rfl (by decide) (by decide), rfl, (k_375 h hb0)⟩ (xpMS (As := [.ref a, .int v]) (wr := []) (wc := [(a, .inr (2, [.int z]))]) hb0 hS hz (va_P.sub hP [] rfl) (va_P.sub hP [0] rfl) (va_D.sub (hwk _ hD) [0] rfl rfl)) rfl rfl hl.1 rfl (lv_room (Nat.le_of_ble_eq_true rfl)) dX2_init_2 ⟨(Nat.le_of_ble_eq_true rfl), (Nat.le_of_ble_eq_true rfl)⟩) hP hD hS hA [0] [] rfl rfl rfl (by decide) (fun r w1 H locs hΦ hP hD hS => ?_)
  obtain ⟨rfl, rfl⟩ := hΦ
  have hP : va_P (dC, dI) vwCl [(a, .inr (2, [.int v]))] H := hP
  have hD : va_D A [(a, .inr (2, [.int v]))] := hD
  exact W.vret hx hb hr (fun t ht _ => ⟨none, _, rfl, ⟨rfl, rfl⟩, by rw [ht]; exact hP, hD, hS.F ht⟩) (fun q z => hS.2.2 q z) dX2_init_5
set_option maxHeartbeats 4000000 in
set_option maxRecDepth 100000 in
theorem c_newBox_n {l : Launch} {s0 : State} {a0 : Array Value} {dC : Nat → ClassId} {dI : Nat → Nat → Nat} {cA : Nat → ClassId} (h : xC l s0 a0 dC dI cA) (p0 p1 : Int32) (hw : p0 &&& 3 = 0) : Met l yX5_newBox [Cond.code yX5_newBox cX5_newBox 2 (some (.object "FaultBench$Box"))] ({ frames := 0, cells := 0, slots := 0, locals := 0 } : Room) (xP s0 (dC, dI) [.int p0, .int p1] []) (xR (some .null)) 0 0 (fun _ => False) := by
  refine Met.ofW (cc := cX5_newBox) (maxL := 2) (ret := (some (.object "FaultBench$Box"))) (by decide) rfl ?_
  intro p e s m args below meth c s₁ B hml hv
  obtain ⟨rfl, hb0, hP⟩ := hv
  have hx := B.exec
  have hb := B.bytes
  have hr := B.returns
  have hown : s.vm.findClass RX5 = some m.cls := findClass_of_methodNamed B.named
  have hlocks := B.notSynchronized
  have hK := h.K hb0
  have hS : va_S (fun _ : Nat => False) s.heap s.heap [] := va_S.rf
  have hz : ∀ q : Nat, (fun _ : Nat => False) q → s0.heap.size ≤ q := fun _ z => z.elim
  have hl := lv_entry ([.int p0, .int p1]) (n := 2) (Nat.le_of_ble_eq_true rfl)
  rw [lg_entry_eq]
  generalize (lg_sl ([.int p0, .int p1]) ++ List.replicate (2 - (lg_sl ([.int p0, .int p1])).length) Slot.unset).toArray = ls at hl ⊢
  have hl : lv_has ls 2 [(0, .int p0), (1, .int p1)] := hl
  refine lv_iload_n hx hb dX5_newBox_0 rfl (lv_at hl 0 rfl) ?_
  refine lv_iconst (v := 3) hx hb dX5_newBox_1 (by decide) ?_
  refine lv_iand hx hb dX5_newBox_2 ?_
  rw [hw]
  refine lv_lookup (off := 25) (tgt := 28) hx hb dX5_newBox_3 (by decide) (by decide) (by decide) ?_
  refine lv_null hx hb dX5_newBox_28 ?_
  refine lv_goto (tgt := 51) hx hb dX5_newBox_29 (by decide) ?_
  exact W.aret hx hb hr (Or.inl ⟨_, rfl⟩) (Or.inl rfl) (fun t ht _ => ⟨rfl, ht⟩) (fun q z => nomatch z) dX5_newBox_51
set_option maxHeartbeats 4000000 in
set_option maxRecDepth 100000 in
theorem c_newBox_b {l : Launch} {s0 : State} {a0 : Array Value} {dC : Nat → ClassId} {dI : Nat → Nat → Nat} {cA : Nat → ClassId} (h : xC l s0 a0 dC dI cA) (p0 p1 : Int32) (sz : Nat) (hw : p0 &&& 3 = 1) : Met l yX5_newBox [Cond.code yX5_newBox cX5_newBox 2 (some (.object "FaultBench$Box"))] ({ frames := 3, cells := 1, slots := 1, locals := 120 } : Room) (xPM s0 (dC, dI) [.int p0, .int p1] [] [] sz) (xQM (dC, dI) (va_A [] sz) (fun r w1 => ∃ q : Nat, r = some (.ref q) ∧ w1 = [(q, .inr (0, [.int p1]))])) 1 1 (va_A [] sz) := by
  refine Met.ofW (cc := cX5_newBox) (maxL := 2) (ret := (some (.object "FaultBench$Box"))) (by decide) rfl ?_
  intro p e s m args below meth c s₁ B hml hv
  obtain ⟨rfl, rfl, hb0, hPr, hP, hD0⟩ := hv
  have hx := B.exec
  have hb := B.bytes
  have hr := B.returns
  have hown : s.vm.findClass RX5 = some m.cls := findClass_of_methodNamed B.named
  have hlocks := B.notSynchronized
  have hK := h.K hb0
  have hS : va_S (va_A [] s.heap.size) s.heap s.heap [] := va_S.rf
  obtain ⟨A, hAe, hD, hA, hz, hRo, hwk, hnR⟩ := xM_start hb0 hPr hP hD0
  rw [hAe] at hS ⊢
  have hl := lv_entry ([.int p0, .int p1]) (n := 2) (Nat.le_of_ble_eq_true rfl)
  rw [lg_entry_eq]
  generalize (lg_sl ([.int p0, .int p1]) ++ List.replicate (2 - (lg_sl ([.int p0, .int p1])).length) Slot.unset).toArray = ls at hl ⊢
  have hl : lv_has ls 2 [(0, .int p0), (1, .int p1)] := hl
  refine lv_iload_n hx hb dX5_newBox_0 rfl (lv_at hl 0 rfl) ?_
  refine lv_iconst (v := 3) hx hb dX5_newBox_1 (by decide) ?_
  refine lv_iand hx hb dX5_newBox_2 ?_
  rw [hw]
  refine lv_lookup (off := 29) (tgt := 32) hx hb dX5_newBox_3 (by decide) (by decide) (by decide) ?_
  refine va_new (C := RX0) (T := TX0) (N := 1) (ci := 0) (fs := [.int 0]) hx hb (ly_0 h hb0) (fun _ z => z) tyX0 tyX0_ok hown (k_372 h hb0) (k_373 h hb0) (k_13 h hb0) hK hP hD hS hA rfl dfX0 (Nat.le_of_ble_eq_true rfl) (Nat.le_of_ble_eq_true rfl) dX5_newBox_32 (fun q H hP hD hS => ?_)
  have hP : va_P (dC, dI) vwCl [(q, .inr (0, [.int 0]))] H := hP
  have hD : va_D A [(q, .inr (0, [.int 0]))] := hD
  refine lv_dup hx hb dX5_newBox_35 rfl ?_
  refine lv_iload_n hx hb dX5_newBox_36 rfl (lv_at hl 1 rfl) ?_
  refine xm_of (wc := [(q, .inr (0, [.int 0]))]) (wo := []) (va_runI (As := [.int p1]) (rest := [.ref q]) ⟨hx, hb, hml, hown, xTs⟩ (c_boxInit_0 h q 0 p1 _) ⟨xB (n := 1) (k_376 h hb0) (k_13 h hb0) (k_374 h hb0) (by decide) rfl rfl rfl (by decide) (by decide), rfl, (k_375 h hb0)⟩ (xpMS (As := [.ref q, .int p1]) (wr := []) (wc := [(q, .inr (0, [.int 0]))]) hb0 hS hz (va_P.sub hP [] rfl) (va_P.sub hP [0] rfl) (va_D.sub (hwk _ hD) [0] rfl rfl)) rfl rfl hl.1 rfl (lv_room (Nat.le_of_ble_eq_true rfl)) dX5_newBox_37 ⟨(Nat.le_of_ble_eq_true rfl), (Nat.le_of_ble_eq_true rfl)⟩) hP hD hS hA [0] [] rfl rfl rfl (by decide) (fun r w1 H locs hΦ hP hD hS => ?_)
  obtain ⟨rfl, rfl⟩ := hΦ
  have hP : va_P (dC, dI) vwCl [(q, .inr (0, [.int p1]))] H := hP
  have hD : va_D A [(q, .inr (0, [.int p1]))] := hD
  refine lv_goto (tgt := 51) hx hb dX5_newBox_40 (by decide) ?_
  exact W.aret hx hb hr (Or.inl ⟨_, rfl⟩) (Or.inr ⟨_, rfl⟩) (fun t ht _ => ⟨(some (.ref q)), _, rfl, ⟨q, rfl, rfl⟩, by rw [ht]; exact hP, hD, hS.F ht⟩) (fun q z => hS.2.2 q z) dX5_newBox_51
set_option maxHeartbeats 4000000 in
set_option maxRecDepth 100000 in
theorem c_newBox_d {l : Launch} {s0 : State} {a0 : Array Value} {dC : Nat → ClassId} {dI : Nat → Nat → Nat} {cA : Nat → ClassId} (h : xC l s0 a0 dC dI cA) (p0 p1 : Int32) (sz : Nat) (hw : p0 &&& 3 = 2 ∨ p0 &&& 3 = 3) : Met l yX5_newBox [Cond.code yX5_newBox cX5_newBox 2 (some (.object "FaultBench$Box"))] ({ frames := 3, cells := 1, slots := 1, locals := 120 } : Room) (xPM s0 (dC, dI) [.int p0, .int p1] [] [] sz) (xQM (dC, dI) (va_A [] sz) (fun r w1 => ∃ q : Nat, r = some (.ref q) ∧ w1 = [(q, .inr (2, [.int p1]))])) 1 1 (va_A [] sz) := by
  refine Met.ofW (cc := cX5_newBox) (maxL := 2) (ret := (some (.object "FaultBench$Box"))) (by decide) rfl ?_
  intro p e s m args below meth c s₁ B hml hv
  obtain ⟨rfl, rfl, hb0, hPr, hP, hD0⟩ := hv
  have hx := B.exec
  have hb := B.bytes
  have hr := B.returns
  have hown : s.vm.findClass RX5 = some m.cls := findClass_of_methodNamed B.named
  have hlocks := B.notSynchronized
  have hK := h.K hb0
  have hS : va_S (va_A [] s.heap.size) s.heap s.heap [] := va_S.rf
  obtain ⟨A, hAe, hD, hA, hz, hRo, hwk, hnR⟩ := xM_start hb0 hPr hP hD0
  rw [hAe] at hS ⊢
  have hl := lv_entry ([.int p0, .int p1]) (n := 2) (Nat.le_of_ble_eq_true rfl)
  rw [lg_entry_eq]
  generalize (lg_sl ([.int p0, .int p1]) ++ List.replicate (2 - (lg_sl ([.int p0, .int p1])).length) Slot.unset).toArray = ls at hl ⊢
  have hl : lv_has ls 2 [(0, .int p0), (1, .int p1)] := hl
  refine lv_iload_n hx hb dX5_newBox_0 rfl (lv_at hl 0 rfl) ?_
  refine lv_iconst (v := 3) hx hb dX5_newBox_1 (by decide) ?_
  refine lv_iand hx hb dX5_newBox_2 ?_
  refine lv_lookup (off := 40) (tgt := 43) hx hb dX5_newBox_3 (by decide) (by rcases hw with hw | hw <;> rw [hw] <;> decide) (by decide) ?_
  refine va_new (C := RX2) (T := TX2) (N := 1) (ci := 2) (fs := [.int 0]) hx hb (ly_2 h hb0) (fun _ z => z) tyX2 tyX2_ok hown (k_385 h hb0) (k_386 h hb0) (k_14 h hb0) hK hP hD hS hA rfl dfX2 (Nat.le_of_ble_eq_true rfl) (Nat.le_of_ble_eq_true rfl) dX5_newBox_43 (fun q H hP hD hS => ?_)
  have hP : va_P (dC, dI) vwCl [(q, .inr (2, [.int 0]))] H := hP
  have hD : va_D A [(q, .inr (2, [.int 0]))] := hD
  refine lv_dup hx hb dX5_newBox_46 rfl ?_
  refine lv_iload_n hx hb dX5_newBox_47 rfl (lv_at hl 1 rfl) ?_
  refine xm_of (wc := [(q, .inr (2, [.int 0]))]) (wo := []) (va_runI (As := [.int p1]) (rest := [.ref q]) ⟨hx, hb, hml, hown, xTs⟩ (c_discInit h q 0 p1 _) ⟨xB (n := 1) (k_389 h hb0) (k_14 h hb0) (k_387 h hb0) (by decide) rfl rfl rfl (by decide) (by decide), rfl, (k_388 h hb0)⟩ (xpMS (As := [.ref q, .int p1]) (wr := []) (wc := [(q, .inr (2, [.int 0]))]) hb0 hS hz (va_P.sub hP [] rfl) (va_P.sub hP [0] rfl) (va_D.sub (hwk _ hD) [0] rfl rfl)) rfl rfl hl.1 rfl (lv_room (Nat.le_of_ble_eq_true rfl)) dX5_newBox_48 ⟨(Nat.le_of_ble_eq_true rfl), (Nat.le_of_ble_eq_true rfl)⟩) hP hD hS hA [0] [] rfl rfl rfl (by decide) (fun r w1 H locs hΦ hP hD hS => ?_)
  obtain ⟨rfl, rfl⟩ := hΦ
  have hP : va_P (dC, dI) vwCl [(q, .inr (2, [.int p1]))] H := hP
  have hD : va_D A [(q, .inr (2, [.int p1]))] := hD
  exact W.aret hx hb hr (Or.inl ⟨_, rfl⟩) (Or.inr ⟨_, rfl⟩) (fun t ht _ => ⟨(some (.ref q)), _, rfl, ⟨q, rfl, rfl⟩, by rw [ht]; exact hP, hD, hS.F ht⟩) (fun q z => hS.2.2 q z) dX5_newBox_51
set_option maxHeartbeats 4000000 in
set_option maxRecDepth 100000 in
theorem c_bstore_n {l : Launch} {s0 : State} {a0 : Array Value} {dC : Nat → ClassId} {dI : Nat → Nat → Nat} {cA : Nat → ClassId} (h : xC l s0 a0 dC dI cA) (br pl : Nat) (z1 z2 z3 x : Int32) (f : Nat → Option Nat) (sz : Nat) (hi : vp_in x 19) : Met l yX1_store [Cond.code yX1_store cX1_store 3 none] ({ frames := 0, cells := 0, slots := 0, locals := 0 } : Room) (xPM s0 (dC, dI) [.ref br, .int x, .null] [(br, .inr (1, [.ref pl, .int z1, .int z2, .int z3]))] [(pl, .inl (cA 8, 19, .inr (.inr (.inr (.inr f)))))] sz) (xQM (dC, dI) (va_A [(pl, .inl (cA 8, 19, .inr (.inr (.inr (.inr f)))))] sz) (fun r w1 => r = none ∧ w1 = [(pl, .inl (cA 8, 19, .inr (.inr (.inr (.inr (va_up f x.toNatClampNeg none))))))])) 0 0 (va_A [(pl, .inl (cA 8, 19, .inr (.inr (.inr (.inr f)))))] sz) := by
  refine Met.ofW (cc := cX1_store) (maxL := 3) (ret := none) (by decide) rfl ?_
  intro p e s m args below meth c s₁ B hml hv
  obtain ⟨rfl, rfl, hb0, hPr, hP, hD0⟩ := hv
  have hx := B.exec
  have hb := B.bytes
  have hr := B.returns
  have hown : s.vm.findClass RX1 = some m.cls := findClass_of_methodNamed B.named
  have hlocks := B.notSynchronized
  have hK := h.K hb0
  have hS : va_S (va_A [(pl, .inl (cA 8, 19, .inr (.inr (.inr (.inr f)))))] s.heap.size) s.heap s.heap [] := va_S.rf
  obtain ⟨A, hAe, hD, hA, hz, hRo, hwk, hnR⟩ := xM_start hb0 hPr hP hD0
  rw [hAe] at hS ⊢
  have hl := lv_entry ([.ref br, .int x, .null]) (n := 3) (Nat.le_of_ble_eq_true rfl)
  rw [lg_entry_eq]
  generalize (lg_sl ([.ref br, .int x, .null]) ++ List.replicate (3 - (lg_sl ([.ref br, .int x, .null])).length) Slot.unset).toArray = ls at hl ⊢
  have hl : lv_has ls 3 [(0, .ref br), (1, .int x), (2, .null)] := hl
  refine lv_aload_n hx hb dX1_store_0 rfl (lv_at hl 0 rfl) ?_
  refine va_get (D := (dC, dI)) (ci := 1) (v := .ref pl) (C := RX1) (T := TX1) (N := 4) hx hb (ly_1 h hb0) (fun _ z => z) hown hK (hRo _ _ hS) 0 rfl rfl 0 (by decide) (k_97 h hb0) (fun _ z => z) rfl dX1_store_1 ?_
  refine lv_iload_n hx hb dX1_store_4 rfl (lv_at hl 1 rfl) ?_
  refine lv_aload_nN hx hb dX1_store_5 rfl (lv_at hl 2 rfl) ?_
  refine va_astqN hx hb hK hP hD hS 0 8 rfl rfl hi dX1_store_6 (fun H locs hP hD hS => ?_)
  have hP : va_P (dC, dI) vwCl [(pl, .inl (cA 8, 19, .inr (.inr (.inr (.inr (va_up f x.toNatClampNeg none))))))] H := hP
  have hD : va_D A [(pl, .inl (cA 8, 19, .inr (.inr (.inr (.inr (va_up f x.toNatClampNeg none))))))] := hD
  exact W.vret hx hb hr (fun t ht _ => ⟨none, _, rfl, ⟨rfl, rfl⟩, by rw [ht]; exact hP, hD, hS.F ht⟩) (fun q z => hS.2.2 q z) dX1_store_7
set_option maxHeartbeats 4000000 in
set_option maxRecDepth 100000 in
theorem c_bstore_0 {l : Launch} {s0 : State} {a0 : Array Value} {dC : Nat → ClassId} {dI : Nat → Nat → Nat} {cA : Nat → ClassId} (h : xC l s0 a0 dC dI cA) (br pl : Nat) (z1 z2 z3 x : Int32) (f : Nat → Option Nat) (a : Nat) (v : Int32) (sz : Nat) (hi : vp_in x 19) : Met l yX1_store [Cond.code yX1_store cX1_store 3 none] ({ frames := 0, cells := 0, slots := 0, locals := 0 } : Room) (xPM s0 (dC, dI) [.ref br, .int x, .ref a] [(br, .inr (1, [.ref pl, .int z1, .int z2, .int z3]))] [(pl, .inl (cA 8, 19, .inr (.inr (.inr (.inr f))))), (a, .inr (0, [.int v]))] sz) (xQM (dC, dI) (va_A [(pl, .inl (cA 8, 19, .inr (.inr (.inr (.inr f))))), (a, .inr (0, [.int v]))] sz) (fun r w1 => r = none ∧ w1 = [(pl, .inl (cA 8, 19, .inr (.inr (.inr (.inr (va_up f x.toNatClampNeg (some a))))))), (a, .inr (0, [.int v]))])) 0 0 (va_A [(pl, .inl (cA 8, 19, .inr (.inr (.inr (.inr f))))), (a, .inr (0, [.int v]))] sz) := by
  refine Met.ofW (cc := cX1_store) (maxL := 3) (ret := none) (by decide) rfl ?_
  intro p e s m args below meth c s₁ B hml hv
  obtain ⟨rfl, rfl, hb0, hPr, hP, hD0⟩ := hv
  have hx := B.exec
  have hb := B.bytes
  have hr := B.returns
  have hown : s.vm.findClass RX1 = some m.cls := findClass_of_methodNamed B.named
  have hlocks := B.notSynchronized
  have hK := h.K hb0
  have hS : va_S (va_A [(pl, .inl (cA 8, 19, .inr (.inr (.inr (.inr f))))), (a, .inr (0, [.int v]))] s.heap.size) s.heap s.heap [] := va_S.rf
  obtain ⟨A, hAe, hD, hA, hz, hRo, hwk, hnR⟩ := xM_start hb0 hPr hP hD0
  rw [hAe] at hS ⊢
  have hl := lv_entry ([.ref br, .int x, .ref a]) (n := 3) (Nat.le_of_ble_eq_true rfl)
  rw [lg_entry_eq]
  generalize (lg_sl ([.ref br, .int x, .ref a]) ++ List.replicate (3 - (lg_sl ([.ref br, .int x, .ref a])).length) Slot.unset).toArray = ls at hl ⊢
  have hl : lv_has ls 3 [(0, .ref br), (1, .int x), (2, .ref a)] := hl
  refine lv_aload_n hx hb dX1_store_0 rfl (lv_at hl 0 rfl) ?_
  refine va_get (D := (dC, dI)) (ci := 1) (v := .ref pl) (C := RX1) (T := TX1) (N := 4) hx hb (ly_1 h hb0) (fun _ z => z) hown hK (hRo _ _ hS) 0 rfl rfl 0 (by decide) (k_97 h hb0) (fun _ z => z) rfl dX1_store_1 ?_
  refine lv_iload_n hx hb dX1_store_4 rfl (lv_at hl 1 rfl) ?_
  refine lv_aload_n hx hb dX1_store_5 rfl (lv_at hl 2 rfl) ?_
  refine va_astq (r := (RX0, TX0, 1)) hx hb hK hP hD hS 0 8 1 0 rfl rfl rfl rfl hi dX1_store_6 (fun H locs hP hD hS => ?_)
  have hP : va_P (dC, dI) vwCl [(pl, .inl (cA 8, 19, .inr (.inr (.inr (.inr (va_up f x.toNatClampNeg (some a))))))), (a, .inr (0, [.int v]))] H := hP
  have hD : va_D A [(pl, .inl (cA 8, 19, .inr (.inr (.inr (.inr (va_up f x.toNatClampNeg (some a))))))), (a, .inr (0, [.int v]))] := hD
  exact W.vret hx hb hr (fun t ht _ => ⟨none, _, rfl, ⟨rfl, rfl⟩, by rw [ht]; exact hP, hD, hS.F ht⟩) (fun q z => hS.2.2 q z) dX1_store_7
set_option maxHeartbeats 4000000 in
set_option maxRecDepth 100000 in
theorem c_bstore_2 {l : Launch} {s0 : State} {a0 : Array Value} {dC : Nat → ClassId} {dI : Nat → Nat → Nat} {cA : Nat → ClassId} (h : xC l s0 a0 dC dI cA) (br pl : Nat) (z1 z2 z3 x : Int32) (f : Nat → Option Nat) (a : Nat) (v : Int32) (sz : Nat) (hi : vp_in x 19) : Met l yX1_store [Cond.code yX1_store cX1_store 3 none] ({ frames := 0, cells := 0, slots := 0, locals := 0 } : Room) (xPM s0 (dC, dI) [.ref br, .int x, .ref a] [(br, .inr (1, [.ref pl, .int z1, .int z2, .int z3]))] [(pl, .inl (cA 8, 19, .inr (.inr (.inr (.inr f))))), (a, .inr (2, [.int v]))] sz) (xQM (dC, dI) (va_A [(pl, .inl (cA 8, 19, .inr (.inr (.inr (.inr f))))), (a, .inr (2, [.int v]))] sz) (fun r w1 => r = none ∧ w1 = [(pl, .inl (cA 8, 19, .inr (.inr (.inr (.inr (va_up f x.toNatClampNeg (some a))))))), (a, .inr (2, [.int v]))])) 0 0 (va_A [(pl, .inl (cA 8, 19, .inr (.inr (.inr (.inr f))))), (a, .inr (2, [.int v]))] sz) := by
  refine Met.ofW (cc := cX1_store) (maxL := 3) (ret := none) (by decide) rfl ?_
  intro p e s m args below meth c s₁ B hml hv
  obtain ⟨rfl, rfl, hb0, hPr, hP, hD0⟩ := hv
  have hx := B.exec
  have hb := B.bytes
  have hr := B.returns
  have hown : s.vm.findClass RX1 = some m.cls := findClass_of_methodNamed B.named
  have hlocks := B.notSynchronized
  have hK := h.K hb0
  have hS : va_S (va_A [(pl, .inl (cA 8, 19, .inr (.inr (.inr (.inr f))))), (a, .inr (2, [.int v]))] s.heap.size) s.heap s.heap [] := va_S.rf
  obtain ⟨A, hAe, hD, hA, hz, hRo, hwk, hnR⟩ := xM_start hb0 hPr hP hD0
  rw [hAe] at hS ⊢
  have hl := lv_entry ([.ref br, .int x, .ref a]) (n := 3) (Nat.le_of_ble_eq_true rfl)
  rw [lg_entry_eq]
  generalize (lg_sl ([.ref br, .int x, .ref a]) ++ List.replicate (3 - (lg_sl ([.ref br, .int x, .ref a])).length) Slot.unset).toArray = ls at hl ⊢
  have hl : lv_has ls 3 [(0, .ref br), (1, .int x), (2, .ref a)] := hl
  refine lv_aload_n hx hb dX1_store_0 rfl (lv_at hl 0 rfl) ?_
  refine va_get (D := (dC, dI)) (ci := 1) (v := .ref pl) (C := RX1) (T := TX1) (N := 4) hx hb (ly_1 h hb0) (fun _ z => z) hown hK (hRo _ _ hS) 0 rfl rfl 0 (by decide) (k_97 h hb0) (fun _ z => z) rfl dX1_store_1 ?_
  refine lv_iload_n hx hb dX1_store_4 rfl (lv_at hl 1 rfl) ?_
  refine lv_aload_n hx hb dX1_store_5 rfl (lv_at hl 2 rfl) ?_
  refine va_astqO (r := (RX2, TX2, 1)) hx hb hK hP hD hS 0 8 1 2 rfl rfl (k_656 h hb0) rfl rfl hi dX1_store_6 (fun H locs hP hD hS => ?_)
  have hP : va_P (dC, dI) vwCl [(pl, .inl (cA 8, 19, .inr (.inr (.inr (.inr (va_up f x.toNatClampNeg (some a))))))), (a, .inr (2, [.int v]))] H := hP
  have hD : va_D A [(pl, .inl (cA 8, 19, .inr (.inr (.inr (.inr (va_up f x.toNatClampNeg (some a))))))), (a, .inr (2, [.int v]))] := hD
  exact W.vret hx hb hr (fun t ht _ => ⟨none, _, rfl, ⟨rfl, rfl⟩, by rw [ht]; exact hP, hD, hS.F ht⟩) (fun q z => hS.2.2 q z) dX1_store_7
set_option maxHeartbeats 4000000 in
set_option maxRecDepth 100000 in
theorem c_put_n {l : Launch} {s0 : State} {a0 : Array Value} {dC : Nat → ClassId} {dI : Nat → Nat → Nat} {cA : Nat → ClassId} (h : xC l s0 a0 dC dI cA) (b gr br : Nat) (wr ca : Int32) (ro pl : Nat) (z1 z2 z3 p1 p2 p3 p4 : Int32) (f : Nat → Option Nat) (sz : Nat) (hm : z1 = 0 ∨ z1 = 1) (ht : ¬ z1 = 0) (hp : ¬ p1 = 0) (h0 : ¬ p2 < 0) (h1 : p2 < z3) (hi : vp_in p2 19) (hw : p3 &&& 3 = 0) : Met l yX5_put [Cond.code yX5_put cX5_put 6 (some .int)] ({ frames := 4, cells := 0, slots := 0, locals := 160 } : Room) (xPM s0 (dC, dI) [.ref b, .int p1, .int p2, .int p3, .int p4] [(br, .inr (1, [.ref pl, .int z1, .int z2, .int z3]))] [(b, .inr (5, [.ref ro, .ref gr, .ref br, .int wr, .int ca])), (pl, .inl (cA 8, 19, .inr (.inr (.inr (.inr f)))))] sz) (xQM (dC, dI) (va_A [(b, .inr (5, [.ref ro, .ref gr, .ref br, .int wr, .int ca])), (pl, .inl (cA 8, 19, .inr (.inr (.inr (.inr f)))))] sz) (fun r w1 => r = some (.int (ca + 1)) ∧ w1 = [(b, .inr (5, [.ref ro, .ref gr, .ref br, .int wr, .int (ca + 1)])), (pl, .inl (cA 8, 19, .inr (.inr (.inr (.inr (va_up f p2.toNatClampNeg none))))))])) 0 0 (va_A [(b, .inr (5, [.ref ro, .ref gr, .ref br, .int wr, .int ca])), (pl, .inl (cA 8, 19, .inr (.inr (.inr (.inr f)))))] sz) := by
  refine Met.ofW (cc := cX5_put) (maxL := 6) (ret := (some .int)) (by decide) rfl ?_
  intro p e s m args below meth c s₁ B hml hv
  obtain ⟨rfl, rfl, hb0, hPr, hP, hD0⟩ := hv
  have hx := B.exec
  have hb := B.bytes
  have hr := B.returns
  have hown : s.vm.findClass RX5 = some m.cls := findClass_of_methodNamed B.named
  have hlocks := B.notSynchronized
  have hK := h.K hb0
  have hS : va_S (va_A [(b, .inr (5, [.ref ro, .ref gr, .ref br, .int wr, .int ca])), (pl, .inl (cA 8, 19, .inr (.inr (.inr (.inr f)))))] s.heap.size) s.heap s.heap [] := va_S.rf
  obtain ⟨A, hAe, hD, hA, hz, hRo, hwk, hnR⟩ := xM_start hb0 hPr hP hD0
  rw [hAe] at hS ⊢
  have hl := lv_entry ([.ref b, .int p1, .int p2, .int p3, .int p4]) (n := 6) (Nat.le_of_ble_eq_true rfl)
  rw [lg_entry_eq]
  generalize (lg_sl ([.ref b, .int p1, .int p2, .int p3, .int p4]) ++ List.replicate (6 - (lg_sl ([.ref b, .int p1, .int p2, .int p3, .int p4])).length) Slot.unset).toArray = ls at hl ⊢
  have hl : lv_has ls 6 [(0, .ref b), (1, .int p1), (2, .int p2), (3, .int p3), (4, .int p4)] := hl
  refine lv_aload_n hx hb dX5_put_0 rfl (lv_at hl 0 rfl) ?_
  refine va_get (D := (dC, dI)) (ci := 5) (v := .ref br) (C := RX5) (T := TX5) (N := 5) hx hb (ly_5 h hb0) (fun _ z => z) hown hK hP 0 rfl rfl 2 (by decide) (k_112 h hb0) (fun _ z => z) rfl dX5_put_1 ?_
  refine xr_1 (va_runV (As := []) (rest := []) ⟨hx, hb, hml, hown, xTs⟩ (c_bisMade h br pl z1 z2 z3 hm) ⟨xB (n := 0) (k_364 h hb0) (k_4 h hb0) (k_361 h hb0) (by decide) rfl rfl rfl (by decide) (by decide), (k_362 h hb0), (k_363 h hb0)⟩ (xpV hb0 hS hz (va_P.sub (hRo _ _ hS) [0] rfl) (va_recv hK (hRo _ _ hS) (ci := 1) (q0 := 0) rfl rfl)) rfl rfl hl.1 rfl (lv_room (Nat.le_of_ble_eq_true rfl)) dX5_put_4 ⟨(Nat.le_of_ble_eq_true rfl), (Nat.le_of_ble_eq_true rfl)⟩) ?_
  refine lv_if_eq (tgt := 18) hx hb dX5_put_7 (by decide) (fun c_1 => ?_) (fun c_1 => ?_)
  · exact absurd c_1 ht
  · refine lv_iload_n hx hb dX5_put_10 rfl (lv_at hl 1 rfl) ?_
    refine lv_if_eq (tgt := 18) hx hb dX5_put_11 (by decide) (fun c_2 => ?_) (fun c_2 => ?_)
    · exact absurd c_2 hp
    · refine lv_iconst (v := 1) hx hb dX5_put_14 (by decide) ?_
      refine lv_goto (tgt := 19) hx hb dX5_put_15 (by decide) ?_
      refine xr_0 (va_runS (As := [.int 1]) (rest := []) ⟨hx, hb, hml, hown, xTs⟩ (c_needThere h _ (by decide)) ⟨xB (n := 1) (k_140 h hb0) (k_1 h hb0) (k_138 h hb0) (by decide) rfl rfl rfl (by decide) (by decide), (k_139 h hb0)⟩ (xpS hb0 hS hz (va_P.sub (hRo _ _ hS) [] rfl)) rfl rfl hl.1 rfl (lv_room (Nat.le_of_ble_eq_true rfl)) dX5_put_19 ⟨(Nat.le_of_ble_eq_true rfl), (Nat.le_of_ble_eq_true rfl)⟩) ?_
      refine lv_iload_n hx hb dX5_put_22 rfl (lv_at hl 2 rfl) ?_
      refine lv_aload_n hx hb dX5_put_23 rfl (lv_at hl 0 rfl) ?_
      refine va_get (D := (dC, dI)) (ci := 5) (v := .ref br) (C := RX5) (T := TX5) (N := 5) hx hb (ly_5 h hb0) (fun _ z => z) hown hK hP 0 rfl rfl 2 (by decide) (k_112 h hb0) (fun _ z => z) rfl dX5_put_24 ?_
      refine xr_1 (va_runV (As := []) (rest := [.int p2]) ⟨hx, hb, hml, hown, xTs⟩ (c_bplaceCount h br pl z1 z2 z3) ⟨xB (n := 0) (k_368 h hb0) (k_4 h hb0) (k_365 h hb0) (by decide) rfl rfl rfl (by decide) (by decide), (k_366 h hb0), (k_367 h hb0)⟩ (xpV hb0 hS hz (va_P.sub (hRo _ _ hS) [0] rfl) (va_recv hK (hRo _ _ hS) (ci := 1) (q0 := 0) rfl rfl)) rfl rfl hl.1 rfl (lv_room (Nat.le_of_ble_eq_true rfl)) dX5_put_27 ⟨(Nat.le_of_ble_eq_true rfl), (Nat.le_of_ble_eq_true rfl)⟩) ?_
      refine xr_0 (va_runS (As := [.int p2, .int z3]) (rest := []) ⟨hx, hb, hml, hown, xTs⟩ (c_needPlace h _ _ h0 h1) ⟨xB (n := 2) (k_232 h hb0) (k_1 h hb0) (k_230 h hb0) (by decide) rfl rfl rfl (by decide) (by decide), (k_231 h hb0)⟩ (xpS hb0 hS hz (va_P.sub (hRo _ _ hS) [] rfl)) rfl rfl hl.1 rfl (lv_room (Nat.le_of_ble_eq_true rfl)) dX5_put_30 ⟨(Nat.le_of_ble_eq_true rfl), (Nat.le_of_ble_eq_true rfl)⟩) ?_
      refine lv_iload_n hx hb dX5_put_33 rfl (lv_at hl 3 rfl) ?_
      refine lv_iload hx hb dX5_put_34 (lv_at hl 4 rfl) ?_
      refine xr_1 (va_runS (As := [.int p3, .int p4]) (rest := []) ⟨hx, hb, hml, hown, xTs⟩ (c_newBox_n h _ _ hw) ⟨xB (n := 2) (k_371 h hb0) (k_1 h hb0) (k_369 h hb0) (by decide) rfl rfl rfl (by decide) (by decide), (k_370 h hb0)⟩ (xpS hb0 hS hz (va_P.sub (hRo _ _ hS) [] rfl)) rfl rfl hl.1 rfl (lv_room (Nat.le_of_ble_eq_true rfl)) dX5_put_36 ⟨(Nat.le_of_ble_eq_true rfl), (Nat.le_of_ble_eq_true rfl)⟩) ?_
      refine lv_astoreN (lv' := [(5, .null), (0, .ref b), (1, .int p1), (2, .int p2), (3, .int p3), (4, .int p4)]) hx hb dX5_put_39 hl (by decide) rfl (fun ls hl => ?_)
      refine lv_aload_n hx hb dX5_put_41 rfl (lv_at hl 1 rfl) ?_
      refine va_get (D := (dC, dI)) (ci := 5) (v := .ref br) (C := RX5) (T := TX5) (N := 5) hx hb (ly_5 h hb0) (fun _ z => z) hown hK hP 0 rfl rfl 2 (by decide) (k_112 h hb0) (fun _ z => z) rfl dX5_put_42 ?_
      refine lv_aloadN hx hb dX5_put_45 (lv_at hl 0 rfl) ?_
      refine xr_1 (va_runV (As := [.null]) (rest := []) ⟨hx, hb, hml, hown, xTs⟩ (c_takes_n h br pl z1 z2 z3) ⟨xB (n := 1) (k_396 h hb0) (k_4 h hb0) (k_393 h hb0) (by decide) rfl rfl rfl (by decide) (by decide), (k_394 h hb0), (k_395 h hb0)⟩ (xpV hb0 hS hz (va_P.sub (hRo _ _ hS) [0] rfl) (va_recv hK (hRo _ _ hS) (ci := 1) (q0 := 0) rfl rfl)) rfl rfl hl.1 rfl (lv_room (Nat.le_of_ble_eq_true rfl)) dX5_put_47 ⟨(Nat.le_of_ble_eq_true rfl), (Nat.le_of_ble_eq_true rfl)⟩) ?_
      refine lv_if_ne (tgt := 63) hx hb dX5_put_50 (by decide) (fun c_3 => ?_) (fun c_3 => ?_)
      · refine lv_aload_n hx hb dX5_put_63 rfl (lv_at hl 1 rfl) ?_
        refine va_get (D := (dC, dI)) (ci := 5) (v := .ref br) (C := RX5) (T := TX5) (N := 5) hx hb (ly_5 h hb0) (fun _ z => z) hown hK hP 0 rfl rfl 2 (by decide) (k_112 h hb0) (fun _ z => z) rfl dX5_put_64 ?_
        refine lv_iload_n hx hb dX5_put_67 rfl (lv_at hl 3 rfl) ?_
        refine lv_aloadN hx hb dX5_put_68 (lv_at hl 0 rfl) ?_
        refine xm_of (wc := [(pl, .inl (cA 8, 19, .inr (.inr (.inr (.inr f)))))]) (wo := [(b, .inr (5, [.ref ro, .ref gr, .ref br, .int wr, .int ca]))]) (va_runV (As := [.int p2, .null]) (rest := []) ⟨hx, hb, hml, hown, xTs⟩ (c_bstore_n h br pl z1 z2 z3 p2 f _ hi) ⟨xB (n := 2) (k_417 h hb0) (k_4 h hb0) (k_414 h hb0) (by decide) rfl rfl rfl (by decide) (by decide), (k_415 h hb0), (k_416 h hb0)⟩ (xpMV (wr := [(br, .inr (1, [.ref pl, .int z1, .int z2, .int z3]))]) (wc := [(pl, .inl (cA 8, 19, .inr (.inr (.inr (.inr f)))))]) hb0 hS hz (va_P.sub (hRo _ _ hS) [0] rfl) (va_P.sub hP [1] rfl) (va_D.sub (xDD (xDl hD0) hD hz hnR) [0, 2] rfl rfl) (va_recv hK (hRo _ _ hS) (ci := 1) (q0 := 0) rfl rfl)) rfl rfl hl.1 rfl (lv_room (Nat.le_of_ble_eq_true rfl)) dX5_put_70 ⟨(Nat.le_of_ble_eq_true rfl), (Nat.le_of_ble_eq_true rfl)⟩) hP hD hS hA [1] [0] rfl rfl rfl (by decide) (fun r w1 H locs hΦ hP hD hS => ?_)
        obtain ⟨rfl, rfl⟩ := hΦ
        have hP : va_P (dC, dI) vwCl [(b, .inr (5, [.ref ro, .ref gr, .ref br, .int wr, .int ca])), (pl, .inl (cA 8, 19, .inr (.inr (.inr (.inr (va_up f p2.toNatClampNeg none))))))] H := hP
        have hD : va_D A [(b, .inr (5, [.ref ro, .ref gr, .ref br, .int wr, .int ca])), (pl, .inl (cA 8, 19, .inr (.inr (.inr (.inr (va_up f p2.toNatClampNeg none))))))] := hD
        refine lv_aload_n hx hb dX5_put_73 rfl (lv_at hl 1 rfl) ?_
        refine lv_dup hx hb dX5_put_74 rfl ?_
        refine va_get (D := (dC, dI)) (ci := 5) (v := .int ca) (C := RX5) (T := TX5) (N := 5) hx hb (ly_5 h hb0) (fun _ z => z) hown hK hP 0 rfl rfl 4 (by decide) (k_114 h hb0) (fun _ z => z) rfl dX5_put_75 ?_
        refine lv_iconst (v := 1) hx hb dX5_put_78 (by decide) ?_
        refine lv_iadd hx hb dX5_put_79 ?_
        refine va_put (D := (dC, dI)) (ci := 5) (v := .int (ca + 1)) (ty := .int) (C := RX5) (T := TX5) (N := 5) hx hb (ly_5 h hb0) (fun _ z => z) tyX5 tyX5_ok nmX5 hown hK hP hD hS 0 rfl rfl 4 (by decide) (k_114 h hb0) (fun _ z => z) rfl (by decide +kernel) rfl rfl (Nat.le_of_ble_eq_true rfl) dX5_put_80 (fun H locs hP hD hS => ?_)
        have hP : va_P (dC, dI) vwCl [(b, .inr (5, [.ref ro, .ref gr, .ref br, .int wr, .int (ca + 1)])), (pl, .inl (cA 8, 19, .inr (.inr (.inr (.inr (va_up f p2.toNatClampNeg none))))))] H := hP
        have hD : va_D A [(b, .inr (5, [.ref ro, .ref gr, .ref br, .int wr, .int (ca + 1)])), (pl, .inl (cA 8, 19, .inr (.inr (.inr (.inr (va_up f p2.toNatClampNeg none))))))] := hD
        refine lv_aload_n hx hb dX5_put_83 rfl (lv_at hl 1 rfl) ?_
        refine va_get (D := (dC, dI)) (ci := 5) (v := .int (ca + 1)) (C := RX5) (T := TX5) (N := 5) hx hb (ly_5 h hb0) (fun _ z => z) hown hK hP 0 rfl rfl 4 (by decide) (k_114 h hb0) (fun _ z => z) rfl dX5_put_84 ?_
        exact W.iret hx hb hr (fun t ht _ => ⟨(some (.int (ca + 1))), _, rfl, ⟨rfl, rfl⟩, by rw [ht]; exact hP, hD, hS.F ht⟩) (fun q z => hS.2.2 q z) dX5_put_87
      · exact absurd c_3 (by decide)
set_option maxHeartbeats 4000000 in
set_option maxRecDepth 100000 in
theorem t_put_1 {l : Launch} {s0 : State} {a0 : Array Value} {dC : Nat → ClassId} {dI : Nat → Nat → Nat} {cA : Nat → ClassId} (h : xC l s0 a0 dC dI cA) (b gr br : Nat) (wr ca : Int32) (ro pl : Nat) (z1 z2 z3 p1 p2 p3 p4 : Int32) (f : Nat → Option Nat) (hm : z1 = 0 ∨ z1 = 1) (ht : z1 = 0) : xt_Met l yX5_put [Cond.code yX5_put cX5_put 6 (some .int)] ({ frames := 8, cells := 1, slots := 8, locals := 140 } : Room) (xP s0 (dC, dI) [.ref b, .int p1, .int p2, .int p3, .int p4] [(b, .inr (5, [.ref ro, .ref gr, .ref br, .int wr, .int ca])), (br, .inr (1, [.ref pl, .int z1, .int z2, .int z3]))]) "java/lang/NullPointerException" 1 8 := by
  refine xt_ofW (cc := cX5_put) (maxL := 6) (ret := (some .int)) (by decide) rfl ?_
  intro p e s m args below meth c s₁ B hml hout hv
  obtain ⟨rfl, hb0, hP⟩ := hv
  have hx := B.exec
  have hb := B.bytes
  have hr := B.returns
  have hown : s.vm.findClass RX5 = some m.cls := findClass_of_methodNamed B.named
  have hlocks := B.notSynchronized
  have hK := h.K hb0
  have hS : va_S (fun _ : Nat => False) s.heap s.heap [] := va_S.rf
  have hz : ∀ q : Nat, (fun _ : Nat => False) q → s0.heap.size ≤ q := fun _ z => z.elim
  have hl := lv_entry ([.ref b, .int p1, .int p2, .int p3, .int p4]) (n := 6) (Nat.le_of_ble_eq_true rfl)
  rw [lg_entry_eq]
  generalize (lg_sl ([.ref b, .int p1, .int p2, .int p3, .int p4]) ++ List.replicate (6 - (lg_sl ([.ref b, .int p1, .int p2, .int p3, .int p4])).length) Slot.unset).toArray = ls at hl ⊢
  have hl : lv_has ls 6 [(0, .ref b), (1, .int p1), (2, .int p2), (3, .int p3), (4, .int p4)] := hl
  refine lv_aload_n hx hb dX5_put_0 rfl (lv_at hl 0 rfl) ?_
  refine va_get (D := (dC, dI)) (ci := 5) (v := .ref br) (C := RX5) (T := TX5) (N := 5) hx hb (ly_5 h hb0) (fun _ z => z) hown hK hP 0 rfl rfl 2 (by decide) (k_112 h hb0) (fun _ z => z) rfl dX5_put_1 ?_
  refine xr_1 (va_runV (As := []) (rest := []) ⟨hx, hb, hml, hown, xTs⟩ (c_bisMade h br pl z1 z2 z3 hm) ⟨xB (n := 0) (k_364 h hb0) (k_4 h hb0) (k_361 h hb0) (by decide) rfl rfl rfl (by decide) (by decide), (k_362 h hb0), (k_363 h hb0)⟩ (xpV hb0 hS hz (va_P.sub hP [1] rfl) (va_recv hK hP (ci := 1) (q0 := 1) rfl rfl)) rfl rfl hl.1 rfl (lv_room (Nat.le_of_ble_eq_true rfl)) dX5_put_4 ⟨(Nat.le_of_ble_eq_true rfl), (Nat.le_of_ble_eq_true rfl)⟩) ?_
  refine lv_if_eq (tgt := 18) hx hb dX5_put_7 (by decide) (fun c_1 => ?_) (fun c_1 => ?_)
  · refine lv_iconst (v := 0) hx hb dX5_put_18 (by decide) ?_
    exact xt_callS (As := [.int 0]) (rest := []) ⟨hx, hb, hml, hown, xTs⟩ (t_needThere h _ rfl) ⟨xB (n := 1) (k_140 h hb0) (k_1 h hb0) (k_138 h hb0) (by decide) rfl rfl rfl (by decide) (by decide), (k_139 h hb0)⟩ (xpS hb0 hS hz (va_P.sub hP [] rfl)) rfl rfl hl.1 rfl (lv_room (Nat.le_of_ble_eq_true rfl)) dX5_put_19 ⟨(Nat.le_of_ble_eq_true rfl), (Nat.le_of_ble_eq_true rfl)⟩ (fun q ce H1 h1 h2 h3 h4 h5 => xt_out hout hlocks h1 h2 h3 (Nat.le_of_ble_eq_true rfl) (Nat.le_of_ble_eq_true rfl))
  · exact absurd ht c_1
set_option maxHeartbeats 4000000 in
set_option maxRecDepth 100000 in
theorem t_put_2 {l : Launch} {s0 : State} {a0 : Array Value} {dC : Nat → ClassId} {dI : Nat → Nat → Nat} {cA : Nat → ClassId} (h : xC l s0 a0 dC dI cA) (b gr br : Nat) (wr ca : Int32) (ro pl : Nat) (z1 z2 z3 p1 p2 p3 p4 : Int32) (f : Nat → Option Nat) (hm : z1 = 0 ∨ z1 = 1) (ht : ¬ z1 = 0) (hp : p1 = 0) : xt_Met l yX5_put [Cond.code yX5_put cX5_put 6 (some .int)] ({ frames := 8, cells := 1, slots := 8, locals := 140 } : Room) (xP s0 (dC, dI) [.ref b, .int p1, .int p2, .int p3, .int p4] [(b, .inr (5, [.ref ro, .ref gr, .ref br, .int wr, .int ca])), (br, .inr (1, [.ref pl, .int z1, .int z2, .int z3]))]) "java/lang/NullPointerException" 1 8 := by
  refine xt_ofW (cc := cX5_put) (maxL := 6) (ret := (some .int)) (by decide) rfl ?_
  intro p e s m args below meth c s₁ B hml hout hv
  obtain ⟨rfl, hb0, hP⟩ := hv
  have hx := B.exec
  have hb := B.bytes
  have hr := B.returns
  have hown : s.vm.findClass RX5 = some m.cls := findClass_of_methodNamed B.named
  have hlocks := B.notSynchronized
  have hK := h.K hb0
  have hS : va_S (fun _ : Nat => False) s.heap s.heap [] := va_S.rf
  have hz : ∀ q : Nat, (fun _ : Nat => False) q → s0.heap.size ≤ q := fun _ z => z.elim
  have hl := lv_entry ([.ref b, .int p1, .int p2, .int p3, .int p4]) (n := 6) (Nat.le_of_ble_eq_true rfl)
  rw [lg_entry_eq]
  generalize (lg_sl ([.ref b, .int p1, .int p2, .int p3, .int p4]) ++ List.replicate (6 - (lg_sl ([.ref b, .int p1, .int p2, .int p3, .int p4])).length) Slot.unset).toArray = ls at hl ⊢
  have hl : lv_has ls 6 [(0, .ref b), (1, .int p1), (2, .int p2), (3, .int p3), (4, .int p4)] := hl
  refine lv_aload_n hx hb dX5_put_0 rfl (lv_at hl 0 rfl) ?_
  refine va_get (D := (dC, dI)) (ci := 5) (v := .ref br) (C := RX5) (T := TX5) (N := 5) hx hb (ly_5 h hb0) (fun _ z => z) hown hK hP 0 rfl rfl 2 (by decide) (k_112 h hb0) (fun _ z => z) rfl dX5_put_1 ?_
  refine xr_1 (va_runV (As := []) (rest := []) ⟨hx, hb, hml, hown, xTs⟩ (c_bisMade h br pl z1 z2 z3 hm) ⟨xB (n := 0) (k_364 h hb0) (k_4 h hb0) (k_361 h hb0) (by decide) rfl rfl rfl (by decide) (by decide), (k_362 h hb0), (k_363 h hb0)⟩ (xpV hb0 hS hz (va_P.sub hP [1] rfl) (va_recv hK hP (ci := 1) (q0 := 1) rfl rfl)) rfl rfl hl.1 rfl (lv_room (Nat.le_of_ble_eq_true rfl)) dX5_put_4 ⟨(Nat.le_of_ble_eq_true rfl), (Nat.le_of_ble_eq_true rfl)⟩) ?_
  refine lv_if_eq (tgt := 18) hx hb dX5_put_7 (by decide) (fun c_1 => ?_) (fun c_1 => ?_)
  · exact absurd c_1 ht
  · refine lv_iload_n hx hb dX5_put_10 rfl (lv_at hl 1 rfl) ?_
    refine lv_if_eq (tgt := 18) hx hb dX5_put_11 (by decide) (fun c_2 => ?_) (fun c_2 => ?_)
    · refine lv_iconst (v := 0) hx hb dX5_put_18 (by decide) ?_
      exact xt_callS (As := [.int 0]) (rest := []) ⟨hx, hb, hml, hown, xTs⟩ (t_needThere h _ rfl) ⟨xB (n := 1) (k_140 h hb0) (k_1 h hb0) (k_138 h hb0) (by decide) rfl rfl rfl (by decide) (by decide), (k_139 h hb0)⟩ (xpS hb0 hS hz (va_P.sub hP [] rfl)) rfl rfl hl.1 rfl (lv_room (Nat.le_of_ble_eq_true rfl)) dX5_put_19 ⟨(Nat.le_of_ble_eq_true rfl), (Nat.le_of_ble_eq_true rfl)⟩ (fun q ce H1 h1 h2 h3 h4 h5 => xt_out hout hlocks h1 h2 h3 (Nat.le_of_ble_eq_true rfl) (Nat.le_of_ble_eq_true rfl))
    · exact absurd hp c_2
set_option maxHeartbeats 4000000 in
set_option maxRecDepth 100000 in
theorem t_put_A {l : Launch} {s0 : State} {a0 : Array Value} {dC : Nat → ClassId} {dI : Nat → Nat → Nat} {cA : Nat → ClassId} (h : xC l s0 a0 dC dI cA) (b gr br : Nat) (wr ca : Int32) (ro pl : Nat) (z1 z2 z3 p1 p2 p3 p4 : Int32) (f : Nat → Option Nat) (hm : z1 = 0 ∨ z1 = 1) (ht : ¬ z1 = 0) (hp : ¬ p1 = 0) (hc : p2 < 0 ∨ ¬ p2 < z3) : xt_Met l yX5_put [Cond.code yX5_put cX5_put 6 (some .int)] ({ frames := 8, cells := 1, slots := 8, locals := 140 } : Room) (xP s0 (dC, dI) [.ref b, .int p1, .int p2, .int p3, .int p4] [(b, .inr (5, [.ref ro, .ref gr, .ref br, .int wr, .int ca])), (br, .inr (1, [.ref pl, .int z1, .int z2, .int z3]))]) "java/lang/ArrayIndexOutOfBoundsException" 1 8 := by
  refine xt_ofW (cc := cX5_put) (maxL := 6) (ret := (some .int)) (by decide) rfl ?_
  intro p e s m args below meth c s₁ B hml hout hv
  obtain ⟨rfl, hb0, hP⟩ := hv
  have hx := B.exec
  have hb := B.bytes
  have hr := B.returns
  have hown : s.vm.findClass RX5 = some m.cls := findClass_of_methodNamed B.named
  have hlocks := B.notSynchronized
  have hK := h.K hb0
  have hS : va_S (fun _ : Nat => False) s.heap s.heap [] := va_S.rf
  have hz : ∀ q : Nat, (fun _ : Nat => False) q → s0.heap.size ≤ q := fun _ z => z.elim
  have hl := lv_entry ([.ref b, .int p1, .int p2, .int p3, .int p4]) (n := 6) (Nat.le_of_ble_eq_true rfl)
  rw [lg_entry_eq]
  generalize (lg_sl ([.ref b, .int p1, .int p2, .int p3, .int p4]) ++ List.replicate (6 - (lg_sl ([.ref b, .int p1, .int p2, .int p3, .int p4])).length) Slot.unset).toArray = ls at hl ⊢
  have hl : lv_has ls 6 [(0, .ref b), (1, .int p1), (2, .int p2), (3, .int p3), (4, .int p4)] := hl
  refine lv_aload_n hx hb dX5_put_0 rfl (lv_at hl 0 rfl) ?_
  refine va_get (D := (dC, dI)) (ci := 5) (v := .ref br) (C := RX5) (T := TX5) (N := 5) hx hb (ly_5 h hb0) (fun _ z => z) hown hK hP 0 rfl rfl 2 (by decide) (k_112 h hb0) (fun _ z => z) rfl dX5_put_1 ?_
  refine xr_1 (va_runV (As := []) (rest := []) ⟨hx, hb, hml, hown, xTs⟩ (c_bisMade h br pl z1 z2 z3 hm) ⟨xB (n := 0) (k_364 h hb0) (k_4 h hb0) (k_361 h hb0) (by decide) rfl rfl rfl (by decide) (by decide), (k_362 h hb0), (k_363 h hb0)⟩ (xpV hb0 hS hz (va_P.sub hP [1] rfl) (va_recv hK hP (ci := 1) (q0 := 1) rfl rfl)) rfl rfl hl.1 rfl (lv_room (Nat.le_of_ble_eq_true rfl)) dX5_put_4 ⟨(Nat.le_of_ble_eq_true rfl), (Nat.le_of_ble_eq_true rfl)⟩) ?_
  refine lv_if_eq (tgt := 18) hx hb dX5_put_7 (by decide) (fun c_1 => ?_) (fun c_1 => ?_)
  · exact absurd c_1 ht
  · refine lv_iload_n hx hb dX5_put_10 rfl (lv_at hl 1 rfl) ?_
    refine lv_if_eq (tgt := 18) hx hb dX5_put_11 (by decide) (fun c_2 => ?_) (fun c_2 => ?_)
    · exact absurd c_2 hp
    · refine lv_iconst (v := 1) hx hb dX5_put_14 (by decide) ?_
      refine lv_goto (tgt := 19) hx hb dX5_put_15 (by decide) ?_
      refine xr_0 (va_runS (As := [.int 1]) (rest := []) ⟨hx, hb, hml, hown, xTs⟩ (c_needThere h _ (by decide)) ⟨xB (n := 1) (k_140 h hb0) (k_1 h hb0) (k_138 h hb0) (by decide) rfl rfl rfl (by decide) (by decide), (k_139 h hb0)⟩ (xpS hb0 hS hz (va_P.sub hP [] rfl)) rfl rfl hl.1 rfl (lv_room (Nat.le_of_ble_eq_true rfl)) dX5_put_19 ⟨(Nat.le_of_ble_eq_true rfl), (Nat.le_of_ble_eq_true rfl)⟩) ?_
      refine lv_iload_n hx hb dX5_put_22 rfl (lv_at hl 2 rfl) ?_
      refine lv_aload_n hx hb dX5_put_23 rfl (lv_at hl 0 rfl) ?_
      refine va_get (D := (dC, dI)) (ci := 5) (v := .ref br) (C := RX5) (T := TX5) (N := 5) hx hb (ly_5 h hb0) (fun _ z => z) hown hK hP 0 rfl rfl 2 (by decide) (k_112 h hb0) (fun _ z => z) rfl dX5_put_24 ?_
      refine xr_1 (va_runV (As := []) (rest := [.int p2]) ⟨hx, hb, hml, hown, xTs⟩ (c_bplaceCount h br pl z1 z2 z3) ⟨xB (n := 0) (k_368 h hb0) (k_4 h hb0) (k_365 h hb0) (by decide) rfl rfl rfl (by decide) (by decide), (k_366 h hb0), (k_367 h hb0)⟩ (xpV hb0 hS hz (va_P.sub hP [1] rfl) (va_recv hK hP (ci := 1) (q0 := 1) rfl rfl)) rfl rfl hl.1 rfl (lv_room (Nat.le_of_ble_eq_true rfl)) dX5_put_27 ⟨(Nat.le_of_ble_eq_true rfl), (Nat.le_of_ble_eq_true rfl)⟩) ?_
      exact xt_callS (As := [.int p2, .int z3]) (rest := []) ⟨hx, hb, hml, hown, xTs⟩ (t_needPlace h _ _ hc) ⟨xB (n := 2) (k_232 h hb0) (k_1 h hb0) (k_230 h hb0) (by decide) rfl rfl rfl (by decide) (by decide), (k_231 h hb0)⟩ (xpS hb0 hS hz (va_P.sub hP [] rfl)) rfl rfl hl.1 rfl (lv_room (Nat.le_of_ble_eq_true rfl)) dX5_put_30 ⟨(Nat.le_of_ble_eq_true rfl), (Nat.le_of_ble_eq_true rfl)⟩ (fun q ce H1 h1 h2 h3 h4 h5 => xt_out hout hlocks h1 h2 h3 (Nat.le_of_ble_eq_true rfl) (Nat.le_of_ble_eq_true rfl))
set_option maxHeartbeats 4000000 in
set_option maxRecDepth 100000 in
theorem c_put_f {l : Launch} {s0 : State} {a0 : Array Value} {dC : Nat → ClassId} {dI : Nat → Nat → Nat} {cA : Nat → ClassId} (h : xC l s0 a0 dC dI cA) (b gr br : Nat) (wr ca : Int32) (ro pl : Nat) (z1 z2 z3 p1 p2 p3 p4 : Int32) (f : Nat → Option Nat) (sz : Nat) (hm : z1 = 0 ∨ z1 = 1) (ht : ¬ z1 = 0) (hp : ¬ p1 = 0) (h0 : ¬ p2 < 0) (h1 : p2 < z3) (hi : vp_in p2 19) (hw : p3 &&& 3 = 1) (hd : z2 = 0) : Met l yX5_put [Cond.code yX5_put cX5_put 6 (some .int)] ({ frames := 4, cells := 1, slots := 1, locals := 160 } : Room) (xPM s0 (dC, dI) [.ref b, .int p1, .int p2, .int p3, .int p4] [(br, .inr (1, [.ref pl, .int z1, .int z2, .int z3]))] [(b, .inr (5, [.ref ro, .ref gr, .ref br, .int wr, .int ca])), (pl, .inl (cA 8, 19, .inr (.inr (.inr (.inr f)))))] sz) (xQM (dC, dI) (va_A [(b, .inr (5, [.ref ro, .ref gr, .ref br, .int wr, .int ca])), (pl, .inl (cA 8, 19, .inr (.inr (.inr (.inr f)))))] sz) (fun r w1 => ∃ q : Nat, r = some (.int (ca + 1)) ∧ w1 = [(b, .inr (5, [.ref ro, .ref gr, .ref br, .int wr, .int (ca + 1)])), (pl, .inl (cA 8, 19, .inr (.inr (.inr (.inr (va_up f p2.toNatClampNeg (some q))))))), (q, .inr (0, [.int p4]))])) 1 1 (va_A [(b, .inr (5, [.ref ro, .ref gr, .ref br, .int wr, .int ca])), (pl, .inl (cA 8, 19, .inr (.inr (.inr (.inr f)))))] sz) := by
  refine Met.ofW (cc := cX5_put) (maxL := 6) (ret := (some .int)) (by decide) rfl ?_
  intro p e s m args below meth c s₁ B hml hv
  obtain ⟨rfl, rfl, hb0, hPr, hP, hD0⟩ := hv
  have hx := B.exec
  have hb := B.bytes
  have hr := B.returns
  have hown : s.vm.findClass RX5 = some m.cls := findClass_of_methodNamed B.named
  have hlocks := B.notSynchronized
  have hK := h.K hb0
  have hS : va_S (va_A [(b, .inr (5, [.ref ro, .ref gr, .ref br, .int wr, .int ca])), (pl, .inl (cA 8, 19, .inr (.inr (.inr (.inr f)))))] s.heap.size) s.heap s.heap [] := va_S.rf
  obtain ⟨A, hAe, hD, hA, hz, hRo, hwk, hnR⟩ := xM_start hb0 hPr hP hD0
  rw [hAe] at hS ⊢
  have hl := lv_entry ([.ref b, .int p1, .int p2, .int p3, .int p4]) (n := 6) (Nat.le_of_ble_eq_true rfl)
  rw [lg_entry_eq]
  generalize (lg_sl ([.ref b, .int p1, .int p2, .int p3, .int p4]) ++ List.replicate (6 - (lg_sl ([.ref b, .int p1, .int p2, .int p3, .int p4])).length) Slot.unset).toArray = ls at hl ⊢
  have hl : lv_has ls 6 [(0, .ref b), (1, .int p1), (2, .int p2), (3, .int p3), (4, .int p4)] := hl
  refine lv_aload_n hx hb dX5_put_0 rfl (lv_at hl 0 rfl) ?_
  refine va_get (D := (dC, dI)) (ci := 5) (v := .ref br) (C := RX5) (T := TX5) (N := 5) hx hb (ly_5 h hb0) (fun _ z => z) hown hK hP 0 rfl rfl 2 (by decide) (k_112 h hb0) (fun _ z => z) rfl dX5_put_1 ?_
  refine xr_1 (va_runV (As := []) (rest := []) ⟨hx, hb, hml, hown, xTs⟩ (c_bisMade h br pl z1 z2 z3 hm) ⟨xB (n := 0) (k_364 h hb0) (k_4 h hb0) (k_361 h hb0) (by decide) rfl rfl rfl (by decide) (by decide), (k_362 h hb0), (k_363 h hb0)⟩ (xpV hb0 hS hz (va_P.sub (hRo _ _ hS) [0] rfl) (va_recv hK (hRo _ _ hS) (ci := 1) (q0 := 0) rfl rfl)) rfl rfl hl.1 rfl (lv_room (Nat.le_of_ble_eq_true rfl)) dX5_put_4 ⟨(Nat.le_of_ble_eq_true rfl), (Nat.le_of_ble_eq_true rfl)⟩) ?_
  refine lv_if_eq (tgt := 18) hx hb dX5_put_7 (by decide) (fun c_1 => ?_) (fun c_1 => ?_)
  · exact absurd c_1 ht
  · refine lv_iload_n hx hb dX5_put_10 rfl (lv_at hl 1 rfl) ?_
    refine lv_if_eq (tgt := 18) hx hb dX5_put_11 (by decide) (fun c_2 => ?_) (fun c_2 => ?_)
    · exact absurd c_2 hp
    · refine lv_iconst (v := 1) hx hb dX5_put_14 (by decide) ?_
      refine lv_goto (tgt := 19) hx hb dX5_put_15 (by decide) ?_
      refine xr_0 (va_runS (As := [.int 1]) (rest := []) ⟨hx, hb, hml, hown, xTs⟩ (c_needThere h _ (by decide)) ⟨xB (n := 1) (k_140 h hb0) (k_1 h hb0) (k_138 h hb0) (by decide) rfl rfl rfl (by decide) (by decide), (k_139 h hb0)⟩ (xpS hb0 hS hz (va_P.sub (hRo _ _ hS) [] rfl)) rfl rfl hl.1 rfl (lv_room (Nat.le_of_ble_eq_true rfl)) dX5_put_19 ⟨(Nat.le_of_ble_eq_true rfl), (Nat.le_of_ble_eq_true rfl)⟩) ?_
      refine lv_iload_n hx hb dX5_put_22 rfl (lv_at hl 2 rfl) ?_
      refine lv_aload_n hx hb dX5_put_23 rfl (lv_at hl 0 rfl) ?_
      refine va_get (D := (dC, dI)) (ci := 5) (v := .ref br) (C := RX5) (T := TX5) (N := 5) hx hb (ly_5 h hb0) (fun _ z => z) hown hK hP 0 rfl rfl 2 (by decide) (k_112 h hb0) (fun _ z => z) rfl dX5_put_24 ?_
      refine xr_1 (va_runV (As := []) (rest := [.int p2]) ⟨hx, hb, hml, hown, xTs⟩ (c_bplaceCount h br pl z1 z2 z3) ⟨xB (n := 0) (k_368 h hb0) (k_4 h hb0) (k_365 h hb0) (by decide) rfl rfl rfl (by decide) (by decide), (k_366 h hb0), (k_367 h hb0)⟩ (xpV hb0 hS hz (va_P.sub (hRo _ _ hS) [0] rfl) (va_recv hK (hRo _ _ hS) (ci := 1) (q0 := 0) rfl rfl)) rfl rfl hl.1 rfl (lv_room (Nat.le_of_ble_eq_true rfl)) dX5_put_27 ⟨(Nat.le_of_ble_eq_true rfl), (Nat.le_of_ble_eq_true rfl)⟩) ?_
      refine xr_0 (va_runS (As := [.int p2, .int z3]) (rest := []) ⟨hx, hb, hml, hown, xTs⟩ (c_needPlace h _ _ h0 h1) ⟨xB (n := 2) (k_232 h hb0) (k_1 h hb0) (k_230 h hb0) (by decide) rfl rfl rfl (by decide) (by decide), (k_231 h hb0)⟩ (xpS hb0 hS hz (va_P.sub (hRo _ _ hS) [] rfl)) rfl rfl hl.1 rfl (lv_room (Nat.le_of_ble_eq_true rfl)) dX5_put_30 ⟨(Nat.le_of_ble_eq_true rfl), (Nat.le_of_ble_eq_true rfl)⟩) ?_
      refine lv_iload_n hx hb dX5_put_33 rfl (lv_at hl 3 rfl) ?_
      refine lv_iload hx hb dX5_put_34 (lv_at hl 4 rfl) ?_
      refine xm_of (wc := []) (wo := [(b, .inr (5, [.ref ro, .ref gr, .ref br, .int wr, .int ca])), (pl, .inl (cA 8, 19, .inr (.inr (.inr (.inr f)))))]) (va_runS (As := [.int p3, .int p4]) (rest := []) ⟨hx, hb, hml, hown, xTs⟩ (c_newBox_b h _ _ _ hw) ⟨xB (n := 2) (k_371 h hb0) (k_1 h hb0) (k_369 h hb0) (by decide) rfl rfl rfl (by decide) (by decide), (k_370 h hb0)⟩ (xpMS (wr := []) (wc := []) hb0 hS hz (va_P.sub hP [] rfl) (va_P.sub hP [] rfl) (va_D.sub (xDD (xDl hD0) hD hz hnR) [] rfl rfl)) rfl rfl hl.1 rfl (lv_room (Nat.le_of_ble_eq_true rfl)) dX5_put_36 ⟨(Nat.le_of_ble_eq_true rfl), (Nat.le_of_ble_eq_true rfl)⟩) hP hD hS hA [] [0, 1] rfl rfl rfl (by decide) (fun r w1 H locs hΦ hP hD hS => ?_)
      obtain ⟨q, rfl, rfl⟩ := hΦ
      have hP : va_P (dC, dI) vwCl [(b, .inr (5, [.ref ro, .ref gr, .ref br, .int wr, .int ca])), (pl, .inl (cA 8, 19, .inr (.inr (.inr (.inr f))))), (q, .inr (0, [.int p4]))] H := hP
      have hD : va_D A [(b, .inr (5, [.ref ro, .ref gr, .ref br, .int wr, .int ca])), (pl, .inl (cA 8, 19, .inr (.inr (.inr (.inr f))))), (q, .inr (0, [.int p4]))] := hD
      refine lv_astore (lv' := [(5, .ref q), (0, .ref b), (1, .int p1), (2, .int p2), (3, .int p3), (4, .int p4)]) hx hb dX5_put_39 hl (by decide) rfl (fun ls hl => ?_)
      refine lv_aload_n hx hb dX5_put_41 rfl (lv_at hl 1 rfl) ?_
      refine va_get (D := (dC, dI)) (ci := 5) (v := .ref br) (C := RX5) (T := TX5) (N := 5) hx hb (ly_5 h hb0) (fun _ z => z) hown hK hP 0 rfl rfl 2 (by decide) (k_112 h hb0) (fun _ z => z) rfl dX5_put_42 ?_
      refine lv_aload hx hb dX5_put_45 (lv_at hl 0 rfl) ?_
      refine xr_1 (va_runV (As := [.ref q]) (rest := []) ⟨hx, hb, hml, hown, xTs⟩ (c_takes_f h br pl z1 z2 z3 q hd) ⟨xB (n := 1) (k_396 h hb0) (k_4 h hb0) (k_393 h hb0) (by decide) rfl rfl rfl (by decide) (by decide), (k_394 h hb0), (k_395 h hb0)⟩ (xpV hb0 hS hz (va_P.sub (hRo _ _ hS) [0] rfl) (va_recv hK (hRo _ _ hS) (ci := 1) (q0 := 0) rfl rfl)) rfl rfl hl.1 rfl (lv_room (Nat.le_of_ble_eq_true rfl)) dX5_put_47 ⟨(Nat.le_of_ble_eq_true rfl), (Nat.le_of_ble_eq_true rfl)⟩) ?_
      refine lv_if_ne (tgt := 63) hx hb dX5_put_50 (by decide) (fun c_3 => ?_) (fun c_3 => ?_)
      · refine lv_aload_n hx hb dX5_put_63 rfl (lv_at hl 1 rfl) ?_
        refine va_get (D := (dC, dI)) (ci := 5) (v := .ref br) (C := RX5) (T := TX5) (N := 5) hx hb (ly_5 h hb0) (fun _ z => z) hown hK hP 0 rfl rfl 2 (by decide) (k_112 h hb0) (fun _ z => z) rfl dX5_put_64 ?_
        refine lv_iload_n hx hb dX5_put_67 rfl (lv_at hl 3 rfl) ?_
        refine lv_aload hx hb dX5_put_68 (lv_at hl 0 rfl) ?_
        refine xm_of (wc := [(pl, .inl (cA 8, 19, .inr (.inr (.inr (.inr f))))), (q, .inr (0, [.int p4]))]) (wo := [(b, .inr (5, [.ref ro, .ref gr, .ref br, .int wr, .int ca]))]) (va_runV (As := [.int p2, .ref q]) (rest := []) ⟨hx, hb, hml, hown, xTs⟩ (c_bstore_0 h br pl z1 z2 z3 p2 f q p4 _ hi) ⟨xB (n := 2) (k_417 h hb0) (k_4 h hb0) (k_414 h hb0) (by decide) rfl rfl rfl (by decide) (by decide), (k_415 h hb0), (k_416 h hb0)⟩ (xpMV (wr := [(br, .inr (1, [.ref pl, .int z1, .int z2, .int z3]))]) (wc := [(pl, .inl (cA 8, 19, .inr (.inr (.inr (.inr f))))), (q, .inr (0, [.int p4]))]) hb0 hS hz (va_P.sub (hRo _ _ hS) [0] rfl) (va_P.sub hP [1, 2] rfl) (va_D.sub (xDD (xDl hD0) hD hz hnR) [0, 2, 3] rfl rfl) (va_recv hK (hRo _ _ hS) (ci := 1) (q0 := 0) rfl rfl)) rfl rfl hl.1 rfl (lv_room (Nat.le_of_ble_eq_true rfl)) dX5_put_70 ⟨(Nat.le_of_ble_eq_true rfl), (Nat.le_of_ble_eq_true rfl)⟩) hP hD hS hA [1, 2] [0] rfl rfl rfl (by decide) (fun r w1 H locs hΦ hP hD hS => ?_)
        obtain ⟨rfl, rfl⟩ := hΦ
        have hP : va_P (dC, dI) vwCl [(b, .inr (5, [.ref ro, .ref gr, .ref br, .int wr, .int ca])), (pl, .inl (cA 8, 19, .inr (.inr (.inr (.inr (va_up f p2.toNatClampNeg (some q))))))), (q, .inr (0, [.int p4]))] H := hP
        have hD : va_D A [(b, .inr (5, [.ref ro, .ref gr, .ref br, .int wr, .int ca])), (pl, .inl (cA 8, 19, .inr (.inr (.inr (.inr (va_up f p2.toNatClampNeg (some q))))))), (q, .inr (0, [.int p4]))] := hD
        refine lv_aload_n hx hb dX5_put_73 rfl (lv_at hl 1 rfl) ?_
        refine lv_dup hx hb dX5_put_74 rfl ?_
        refine va_get (D := (dC, dI)) (ci := 5) (v := .int ca) (C := RX5) (T := TX5) (N := 5) hx hb (ly_5 h hb0) (fun _ z => z) hown hK hP 0 rfl rfl 4 (by decide) (k_114 h hb0) (fun _ z => z) rfl dX5_put_75 ?_
        refine lv_iconst (v := 1) hx hb dX5_put_78 (by decide) ?_
        refine lv_iadd hx hb dX5_put_79 ?_
        refine va_put (D := (dC, dI)) (ci := 5) (v := .int (ca + 1)) (ty := .int) (C := RX5) (T := TX5) (N := 5) hx hb (ly_5 h hb0) (fun _ z => z) tyX5 tyX5_ok nmX5 hown hK hP hD hS 0 rfl rfl 4 (by decide) (k_114 h hb0) (fun _ z => z) rfl (by decide +kernel) rfl rfl (Nat.le_of_ble_eq_true rfl) dX5_put_80 (fun H locs hP hD hS => ?_)
        have hP : va_P (dC, dI) vwCl [(b, .inr (5, [.ref ro, .ref gr, .ref br, .int wr, .int (ca + 1)])), (pl, .inl (cA 8, 19, .inr (.inr (.inr (.inr (va_up f p2.toNatClampNeg (some q))))))), (q, .inr (0, [.int p4]))] H := hP
        have hD : va_D A [(b, .inr (5, [.ref ro, .ref gr, .ref br, .int wr, .int (ca + 1)])), (pl, .inl (cA 8, 19, .inr (.inr (.inr (.inr (va_up f p2.toNatClampNeg (some q))))))), (q, .inr (0, [.int p4]))] := hD
        refine lv_aload_n hx hb dX5_put_83 rfl (lv_at hl 1 rfl) ?_
        refine va_get (D := (dC, dI)) (ci := 5) (v := .int (ca + 1)) (C := RX5) (T := TX5) (N := 5) hx hb (ly_5 h hb0) (fun _ z => z) hown hK hP 0 rfl rfl 4 (by decide) (k_114 h hb0) (fun _ z => z) rfl dX5_put_84 ?_
        exact W.iret hx hb hr (fun t ht _ => ⟨(some (.int (ca + 1))), _, rfl, ⟨q, rfl, rfl⟩, by rw [ht]; exact hP, hD, hS.F ht⟩) (fun q z => hS.2.2 q z) dX5_put_87
      · exact absurd c_3 (by decide)
set_option maxHeartbeats 4000000 in
set_option maxRecDepth 100000 in
theorem c_put_d {l : Launch} {s0 : State} {a0 : Array Value} {dC : Nat → ClassId} {dI : Nat → Nat → Nat} {cA : Nat → ClassId} (h : xC l s0 a0 dC dI cA) (b gr br : Nat) (wr ca : Int32) (ro pl : Nat) (z1 z2 z3 p1 p2 p3 p4 : Int32) (f : Nat → Option Nat) (sz : Nat) (hm : z1 = 0 ∨ z1 = 1) (ht : ¬ z1 = 0) (hp : ¬ p1 = 0) (h0 : ¬ p2 < 0) (h1 : p2 < z3) (hi : vp_in p2 19) (hw : p3 &&& 3 = 2 ∨ p3 &&& 3 = 3) : Met l yX5_put [Cond.code yX5_put cX5_put 6 (some .int)] ({ frames := 4, cells := 1, slots := 1, locals := 160 } : Room) (xPM s0 (dC, dI) [.ref b, .int p1, .int p2, .int p3, .int p4] [(br, .inr (1, [.ref pl, .int z1, .int z2, .int z3]))] [(b, .inr (5, [.ref ro, .ref gr, .ref br, .int wr, .int ca])), (pl, .inl (cA 8, 19, .inr (.inr (.inr (.inr f)))))] sz) (xQM (dC, dI) (va_A [(b, .inr (5, [.ref ro, .ref gr, .ref br, .int wr, .int ca])), (pl, .inl (cA 8, 19, .inr (.inr (.inr (.inr f)))))] sz) (fun r w1 => ∃ q : Nat, r = some (.int (ca + 1)) ∧ w1 = [(b, .inr (5, [.ref ro, .ref gr, .ref br, .int wr, .int (ca + 1)])), (pl, .inl (cA 8, 19, .inr (.inr (.inr (.inr (va_up f p2.toNatClampNeg (some q))))))), (q, .inr (2, [.int p4]))])) 1 1 (va_A [(b, .inr (5, [.ref ro, .ref gr, .ref br, .int wr, .int ca])), (pl, .inl (cA 8, 19, .inr (.inr (.inr (.inr f)))))] sz) := by
  refine Met.ofW (cc := cX5_put) (maxL := 6) (ret := (some .int)) (by decide) rfl ?_
  intro p e s m args below meth c s₁ B hml hv
  obtain ⟨rfl, rfl, hb0, hPr, hP, hD0⟩ := hv
  have hx := B.exec
  have hb := B.bytes
  have hr := B.returns
  have hown : s.vm.findClass RX5 = some m.cls := findClass_of_methodNamed B.named
  have hlocks := B.notSynchronized
  have hK := h.K hb0
  have hS : va_S (va_A [(b, .inr (5, [.ref ro, .ref gr, .ref br, .int wr, .int ca])), (pl, .inl (cA 8, 19, .inr (.inr (.inr (.inr f)))))] s.heap.size) s.heap s.heap [] := va_S.rf
  obtain ⟨A, hAe, hD, hA, hz, hRo, hwk, hnR⟩ := xM_start hb0 hPr hP hD0
  rw [hAe] at hS ⊢
  have hl := lv_entry ([.ref b, .int p1, .int p2, .int p3, .int p4]) (n := 6) (Nat.le_of_ble_eq_true rfl)
  rw [lg_entry_eq]
  generalize (lg_sl ([.ref b, .int p1, .int p2, .int p3, .int p4]) ++ List.replicate (6 - (lg_sl ([.ref b, .int p1, .int p2, .int p3, .int p4])).length) Slot.unset).toArray = ls at hl ⊢
  have hl : lv_has ls 6 [(0, .ref b), (1, .int p1), (2, .int p2), (3, .int p3), (4, .int p4)] := hl
  refine lv_aload_n hx hb dX5_put_0 rfl (lv_at hl 0 rfl) ?_
  refine va_get (D := (dC, dI)) (ci := 5) (v := .ref br) (C := RX5) (T := TX5) (N := 5) hx hb (ly_5 h hb0) (fun _ z => z) hown hK hP 0 rfl rfl 2 (by decide) (k_112 h hb0) (fun _ z => z) rfl dX5_put_1 ?_
  refine xr_1 (va_runV (As := []) (rest := []) ⟨hx, hb, hml, hown, xTs⟩ (c_bisMade h br pl z1 z2 z3 hm) ⟨xB (n := 0) (k_364 h hb0) (k_4 h hb0) (k_361 h hb0) (by decide) rfl rfl rfl (by decide) (by decide), (k_362 h hb0), (k_363 h hb0)⟩ (xpV hb0 hS hz (va_P.sub (hRo _ _ hS) [0] rfl) (va_recv hK (hRo _ _ hS) (ci := 1) (q0 := 0) rfl rfl)) rfl rfl hl.1 rfl (lv_room (Nat.le_of_ble_eq_true rfl)) dX5_put_4 ⟨(Nat.le_of_ble_eq_true rfl), (Nat.le_of_ble_eq_true rfl)⟩) ?_
  refine lv_if_eq (tgt := 18) hx hb dX5_put_7 (by decide) (fun c_1 => ?_) (fun c_1 => ?_)
  · exact absurd c_1 ht
  · refine lv_iload_n hx hb dX5_put_10 rfl (lv_at hl 1 rfl) ?_
    refine lv_if_eq (tgt := 18) hx hb dX5_put_11 (by decide) (fun c_2 => ?_) (fun c_2 => ?_)
    · exact absurd c_2 hp
    · refine lv_iconst (v := 1) hx hb dX5_put_14 (by decide) ?_
      refine lv_goto (tgt := 19) hx hb dX5_put_15 (by decide) ?_
      refine xr_0 (va_runS (As := [.int 1]) (rest := []) ⟨hx, hb, hml, hown, xTs⟩ (c_needThere h _ (by decide)) ⟨xB (n := 1) (k_140 h hb0) (k_1 h hb0) (k_138 h hb0) (by decide) rfl rfl rfl (by decide) (by decide), (k_139 h hb0)⟩ (xpS hb0 hS hz (va_P.sub (hRo _ _ hS) [] rfl)) rfl rfl hl.1 rfl (lv_room (Nat.le_of_ble_eq_true rfl)) dX5_put_19 ⟨(Nat.le_of_ble_eq_true rfl), (Nat.le_of_ble_eq_true rfl)⟩) ?_
      refine lv_iload_n hx hb dX5_put_22 rfl (lv_at hl 2 rfl) ?_
      refine lv_aload_n hx hb dX5_put_23 rfl (lv_at hl 0 rfl) ?_
      refine va_get (D := (dC, dI)) (ci := 5) (v := .ref br) (C := RX5) (T := TX5) (N := 5) hx hb (ly_5 h hb0) (fun _ z => z) hown hK hP 0 rfl rfl 2 (by decide) (k_112 h hb0) (fun _ z => z) rfl dX5_put_24 ?_
      refine xr_1 (va_runV (As := []) (rest := [.int p2]) ⟨hx, hb, hml, hown, xTs⟩ (c_bplaceCount h br pl z1 z2 z3) ⟨xB (n := 0) (k_368 h hb0) (k_4 h hb0) (k_365 h hb0) (by decide) rfl rfl rfl (by decide) (by decide), (k_366 h hb0), (k_367 h hb0)⟩ (xpV hb0 hS hz (va_P.sub (hRo _ _ hS) [0] rfl) (va_recv hK (hRo _ _ hS) (ci := 1) (q0 := 0) rfl rfl)) rfl rfl hl.1 rfl (lv_room (Nat.le_of_ble_eq_true rfl)) dX5_put_27 ⟨(Nat.le_of_ble_eq_true rfl), (Nat.le_of_ble_eq_true rfl)⟩) ?_
      refine xr_0 (va_runS (As := [.int p2, .int z3]) (rest := []) ⟨hx, hb, hml, hown, xTs⟩ (c_needPlace h _ _ h0 h1) ⟨xB (n := 2) (k_232 h hb0) (k_1 h hb0) (k_230 h hb0) (by decide) rfl rfl rfl (by decide) (by decide), (k_231 h hb0)⟩ (xpS hb0 hS hz (va_P.sub (hRo _ _ hS) [] rfl)) rfl rfl hl.1 rfl (lv_room (Nat.le_of_ble_eq_true rfl)) dX5_put_30 ⟨(Nat.le_of_ble_eq_true rfl), (Nat.le_of_ble_eq_true rfl)⟩) ?_
      refine lv_iload_n hx hb dX5_put_33 rfl (lv_at hl 3 rfl) ?_
      refine lv_iload hx hb dX5_put_34 (lv_at hl 4 rfl) ?_
      refine xm_of (wc := []) (wo := [(b, .inr (5, [.ref ro, .ref gr, .ref br, .int wr, .int ca])), (pl, .inl (cA 8, 19, .inr (.inr (.inr (.inr f)))))]) (va_runS (As := [.int p3, .int p4]) (rest := []) ⟨hx, hb, hml, hown, xTs⟩ (c_newBox_d h _ _ _ hw) ⟨xB (n := 2) (k_371 h hb0) (k_1 h hb0) (k_369 h hb0) (by decide) rfl rfl rfl (by decide) (by decide), (k_370 h hb0)⟩ (xpMS (wr := []) (wc := []) hb0 hS hz (va_P.sub hP [] rfl) (va_P.sub hP [] rfl) (va_D.sub (xDD (xDl hD0) hD hz hnR) [] rfl rfl)) rfl rfl hl.1 rfl (lv_room (Nat.le_of_ble_eq_true rfl)) dX5_put_36 ⟨(Nat.le_of_ble_eq_true rfl), (Nat.le_of_ble_eq_true rfl)⟩) hP hD hS hA [] [0, 1] rfl rfl rfl (by decide) (fun r w1 H locs hΦ hP hD hS => ?_)
      obtain ⟨q, rfl, rfl⟩ := hΦ
      have hP : va_P (dC, dI) vwCl [(b, .inr (5, [.ref ro, .ref gr, .ref br, .int wr, .int ca])), (pl, .inl (cA 8, 19, .inr (.inr (.inr (.inr f))))), (q, .inr (2, [.int p4]))] H := hP
      have hD : va_D A [(b, .inr (5, [.ref ro, .ref gr, .ref br, .int wr, .int ca])), (pl, .inl (cA 8, 19, .inr (.inr (.inr (.inr f))))), (q, .inr (2, [.int p4]))] := hD
      refine lv_astore (lv' := [(5, .ref q), (0, .ref b), (1, .int p1), (2, .int p2), (3, .int p3), (4, .int p4)]) hx hb dX5_put_39 hl (by decide) rfl (fun ls hl => ?_)
      refine lv_aload_n hx hb dX5_put_41 rfl (lv_at hl 1 rfl) ?_
      refine va_get (D := (dC, dI)) (ci := 5) (v := .ref br) (C := RX5) (T := TX5) (N := 5) hx hb (ly_5 h hb0) (fun _ z => z) hown hK hP 0 rfl rfl 2 (by decide) (k_112 h hb0) (fun _ z => z) rfl dX5_put_42 ?_
      refine lv_aload hx hb dX5_put_45 (lv_at hl 0 rfl) ?_
      by_cases hd : z2 = 0
      · refine xr_1 (va_runV (As := [.ref q]) (rest := []) ⟨hx, hb, hml, hown, xTs⟩ (c_takes_f h br pl z1 z2 z3 q hd) ⟨xB (n := 1) (k_396 h hb0) (k_4 h hb0) (k_393 h hb0) (by decide) rfl rfl rfl (by decide) (by decide), (k_394 h hb0), (k_395 h hb0)⟩ (xpV hb0 hS hz (va_P.sub (hRo _ _ hS) [0] rfl) (va_recv hK (hRo _ _ hS) (ci := 1) (q0 := 0) rfl rfl)) rfl rfl hl.1 rfl (lv_room (Nat.le_of_ble_eq_true rfl)) dX5_put_47 ⟨(Nat.le_of_ble_eq_true rfl), (Nat.le_of_ble_eq_true rfl)⟩) ?_
        refine lv_if_ne (tgt := 63) hx hb dX5_put_50 (by decide) (fun c_3 => ?_) (fun c_3 => ?_)
        · refine lv_aload_n hx hb dX5_put_63 rfl (lv_at hl 1 rfl) ?_
          refine va_get (D := (dC, dI)) (ci := 5) (v := .ref br) (C := RX5) (T := TX5) (N := 5) hx hb (ly_5 h hb0) (fun _ z => z) hown hK hP 0 rfl rfl 2 (by decide) (k_112 h hb0) (fun _ z => z) rfl dX5_put_64 ?_
          refine lv_iload_n hx hb dX5_put_67 rfl (lv_at hl 3 rfl) ?_
          refine lv_aload hx hb dX5_put_68 (lv_at hl 0 rfl) ?_
          refine xm_of (wc := [(pl, .inl (cA 8, 19, .inr (.inr (.inr (.inr f))))), (q, .inr (2, [.int p4]))]) (wo := [(b, .inr (5, [.ref ro, .ref gr, .ref br, .int wr, .int ca]))]) (va_runV (As := [.int p2, .ref q]) (rest := []) ⟨hx, hb, hml, hown, xTs⟩ (c_bstore_2 h br pl z1 z2 z3 p2 f q p4 _ hi) ⟨xB (n := 2) (k_417 h hb0) (k_4 h hb0) (k_414 h hb0) (by decide) rfl rfl rfl (by decide) (by decide), (k_415 h hb0), (k_416 h hb0)⟩ (xpMV (wr := [(br, .inr (1, [.ref pl, .int z1, .int z2, .int z3]))]) (wc := [(pl, .inl (cA 8, 19, .inr (.inr (.inr (.inr f))))), (q, .inr (2, [.int p4]))]) hb0 hS hz (va_P.sub (hRo _ _ hS) [0] rfl) (va_P.sub hP [1, 2] rfl) (va_D.sub (xDD (xDl hD0) hD hz hnR) [0, 2, 3] rfl rfl) (va_recv hK (hRo _ _ hS) (ci := 1) (q0 := 0) rfl rfl)) rfl rfl hl.1 rfl (lv_room (Nat.le_of_ble_eq_true rfl)) dX5_put_70 ⟨(Nat.le_of_ble_eq_true rfl), (Nat.le_of_ble_eq_true rfl)⟩) hP hD hS hA [1, 2] [0] rfl rfl rfl (by decide) (fun r w1 H locs hΦ hP hD hS => ?_)
          obtain ⟨rfl, rfl⟩ := hΦ
          have hP : va_P (dC, dI) vwCl [(b, .inr (5, [.ref ro, .ref gr, .ref br, .int wr, .int ca])), (pl, .inl (cA 8, 19, .inr (.inr (.inr (.inr (va_up f p2.toNatClampNeg (some q))))))), (q, .inr (2, [.int p4]))] H := hP
          have hD : va_D A [(b, .inr (5, [.ref ro, .ref gr, .ref br, .int wr, .int ca])), (pl, .inl (cA 8, 19, .inr (.inr (.inr (.inr (va_up f p2.toNatClampNeg (some q))))))), (q, .inr (2, [.int p4]))] := hD
          refine lv_aload_n hx hb dX5_put_73 rfl (lv_at hl 1 rfl) ?_
          refine lv_dup hx hb dX5_put_74 rfl ?_
          refine va_get (D := (dC, dI)) (ci := 5) (v := .int ca) (C := RX5) (T := TX5) (N := 5) hx hb (ly_5 h hb0) (fun _ z => z) hown hK hP 0 rfl rfl 4 (by decide) (k_114 h hb0) (fun _ z => z) rfl dX5_put_75 ?_
          refine lv_iconst (v := 1) hx hb dX5_put_78 (by decide) ?_
          refine lv_iadd hx hb dX5_put_79 ?_
          refine va_put (D := (dC, dI)) (ci := 5) (v := .int (ca + 1)) (ty := .int) (C := RX5) (T := TX5) (N := 5) hx hb (ly_5 h hb0) (fun _ z => z) tyX5 tyX5_ok nmX5 hown hK hP hD hS 0 rfl rfl 4 (by decide) (k_114 h hb0) (fun _ z => z) rfl (by decide +kernel) rfl rfl (Nat.le_of_ble_eq_true rfl) dX5_put_80 (fun H locs hP hD hS => ?_)
          have hP : va_P (dC, dI) vwCl [(b, .inr (5, [.ref ro, .ref gr, .ref br, .int wr, .int (ca + 1)])), (pl, .inl (cA 8, 19, .inr (.inr (.inr (.inr (va_up f p2.toNatClampNeg (some q))))))), (q, .inr (2, [.int p4]))] H := hP
          have hD : va_D A [(b, .inr (5, [.ref ro, .ref gr, .ref br, .int wr, .int (ca + 1)])), (pl, .inl (cA 8, 19, .inr (.inr (.inr (.inr (va_up f p2.toNatClampNeg (some q))))))), (q, .inr (2, [.int p4]))] := hD
          refine lv_aload_n hx hb dX5_put_83 rfl (lv_at hl 1 rfl) ?_
          refine va_get (D := (dC, dI)) (ci := 5) (v := .int (ca + 1)) (C := RX5) (T := TX5) (N := 5) hx hb (ly_5 h hb0) (fun _ z => z) hown hK hP 0 rfl rfl 4 (by decide) (k_114 h hb0) (fun _ z => z) rfl dX5_put_84 ?_
          exact W.iret hx hb hr (fun t ht _ => ⟨(some (.int (ca + 1))), _, rfl, ⟨q, rfl, rfl⟩, by rw [ht]; exact hP, hD, hS.F ht⟩) (fun q z => hS.2.2 q z) dX5_put_87
        · exact absurd c_3 (by decide)
      · refine xr_1 (va_runV (As := [.ref q]) (rest := []) ⟨hx, hb, hml, hown, xTs⟩ (c_takes_d h br pl z1 z2 z3 q p4 hd) ⟨xB (n := 1) (k_396 h hb0) (k_4 h hb0) (k_393 h hb0) (by decide) rfl rfl rfl (by decide) (by decide), (k_394 h hb0), (k_395 h hb0)⟩ (xpV hb0 hS hz (va_P.app (va_P.sub (hRo _ _ hS) [0] rfl) (va_P.sub hP [2] rfl)) (va_recv hK (hRo _ _ hS) (ci := 1) (q0 := 0) rfl rfl)) rfl rfl hl.1 rfl (lv_room (Nat.le_of_ble_eq_true rfl)) dX5_put_47 ⟨(Nat.le_of_ble_eq_true rfl), (Nat.le_of_ble_eq_true rfl)⟩) ?_
        refine lv_if_ne (tgt := 63) hx hb dX5_put_50 (by decide) (fun c_4 => ?_) (fun c_4 => ?_)
        · refine lv_aload_n hx hb dX5_put_63 rfl (lv_at hl 1 rfl) ?_
          refine va_get (D := (dC, dI)) (ci := 5) (v := .ref br) (C := RX5) (T := TX5) (N := 5) hx hb (ly_5 h hb0) (fun _ z => z) hown hK hP 0 rfl rfl 2 (by decide) (k_112 h hb0) (fun _ z => z) rfl dX5_put_64 ?_
          refine lv_iload_n hx hb dX5_put_67 rfl (lv_at hl 3 rfl) ?_
          refine lv_aload hx hb dX5_put_68 (lv_at hl 0 rfl) ?_
          refine xm_of (wc := [(pl, .inl (cA 8, 19, .inr (.inr (.inr (.inr f))))), (q, .inr (2, [.int p4]))]) (wo := [(b, .inr (5, [.ref ro, .ref gr, .ref br, .int wr, .int ca]))]) (va_runV (As := [.int p2, .ref q]) (rest := []) ⟨hx, hb, hml, hown, xTs⟩ (c_bstore_2 h br pl z1 z2 z3 p2 f q p4 _ hi) ⟨xB (n := 2) (k_417 h hb0) (k_4 h hb0) (k_414 h hb0) (by decide) rfl rfl rfl (by decide) (by decide), (k_415 h hb0), (k_416 h hb0)⟩ (xpMV (wr := [(br, .inr (1, [.ref pl, .int z1, .int z2, .int z3]))]) (wc := [(pl, .inl (cA 8, 19, .inr (.inr (.inr (.inr f))))), (q, .inr (2, [.int p4]))]) hb0 hS hz (va_P.sub (hRo _ _ hS) [0] rfl) (va_P.sub hP [1, 2] rfl) (va_D.sub (xDD (xDl hD0) hD hz hnR) [0, 2, 3] rfl rfl) (va_recv hK (hRo _ _ hS) (ci := 1) (q0 := 0) rfl rfl)) rfl rfl hl.1 rfl (lv_room (Nat.le_of_ble_eq_true rfl)) dX5_put_70 ⟨(Nat.le_of_ble_eq_true rfl), (Nat.le_of_ble_eq_true rfl)⟩) hP hD hS hA [1, 2] [0] rfl rfl rfl (by decide) (fun r w1 H locs hΦ hP hD hS => ?_)
          obtain ⟨rfl, rfl⟩ := hΦ
          have hP : va_P (dC, dI) vwCl [(b, .inr (5, [.ref ro, .ref gr, .ref br, .int wr, .int ca])), (pl, .inl (cA 8, 19, .inr (.inr (.inr (.inr (va_up f p2.toNatClampNeg (some q))))))), (q, .inr (2, [.int p4]))] H := hP
          have hD : va_D A [(b, .inr (5, [.ref ro, .ref gr, .ref br, .int wr, .int ca])), (pl, .inl (cA 8, 19, .inr (.inr (.inr (.inr (va_up f p2.toNatClampNeg (some q))))))), (q, .inr (2, [.int p4]))] := hD
          refine lv_aload_n hx hb dX5_put_73 rfl (lv_at hl 1 rfl) ?_
          refine lv_dup hx hb dX5_put_74 rfl ?_
          refine va_get (D := (dC, dI)) (ci := 5) (v := .int ca) (C := RX5) (T := TX5) (N := 5) hx hb (ly_5 h hb0) (fun _ z => z) hown hK hP 0 rfl rfl 4 (by decide) (k_114 h hb0) (fun _ z => z) rfl dX5_put_75 ?_
          refine lv_iconst (v := 1) hx hb dX5_put_78 (by decide) ?_
          refine lv_iadd hx hb dX5_put_79 ?_
          refine va_put (D := (dC, dI)) (ci := 5) (v := .int (ca + 1)) (ty := .int) (C := RX5) (T := TX5) (N := 5) hx hb (ly_5 h hb0) (fun _ z => z) tyX5 tyX5_ok nmX5 hown hK hP hD hS 0 rfl rfl 4 (by decide) (k_114 h hb0) (fun _ z => z) rfl (by decide +kernel) rfl rfl (Nat.le_of_ble_eq_true rfl) dX5_put_80 (fun H locs hP hD hS => ?_)
          have hP : va_P (dC, dI) vwCl [(b, .inr (5, [.ref ro, .ref gr, .ref br, .int wr, .int (ca + 1)])), (pl, .inl (cA 8, 19, .inr (.inr (.inr (.inr (va_up f p2.toNatClampNeg (some q))))))), (q, .inr (2, [.int p4]))] H := hP
          have hD : va_D A [(b, .inr (5, [.ref ro, .ref gr, .ref br, .int wr, .int (ca + 1)])), (pl, .inl (cA 8, 19, .inr (.inr (.inr (.inr (va_up f p2.toNatClampNeg (some q))))))), (q, .inr (2, [.int p4]))] := hD
          refine lv_aload_n hx hb dX5_put_83 rfl (lv_at hl 1 rfl) ?_
          refine va_get (D := (dC, dI)) (ci := 5) (v := .int (ca + 1)) (C := RX5) (T := TX5) (N := 5) hx hb (ly_5 h hb0) (fun _ z => z) hown hK hP 0 rfl rfl 4 (by decide) (k_114 h hb0) (fun _ z => z) rfl dX5_put_84 ?_
          exact W.iret hx hb hr (fun t ht _ => ⟨(some (.int (ca + 1))), _, rfl, ⟨q, rfl, rfl⟩, by rw [ht]; exact hP, hD, hS.F ht⟩) (fun q z => hS.2.2 q z) dX5_put_87
        · exact absurd c_4 (by decide)
set_option maxHeartbeats 4000000 in
set_option maxRecDepth 100000 in
theorem t_put_S {l : Launch} {s0 : State} {a0 : Array Value} {dC : Nat → ClassId} {dI : Nat → Nat → Nat} {cA : Nat → ClassId} (h : xC l s0 a0 dC dI cA) (b gr br : Nat) (wr ca : Int32) (ro pl : Nat) (z1 z2 z3 p1 p2 p3 p4 : Int32) (f : Nat → Option Nat) (hm : z1 = 0 ∨ z1 = 1) (ht : ¬ z1 = 0) (hp : ¬ p1 = 0) (h0 : ¬ p2 < 0) (h1 : p2 < z3) (hi : vp_in p2 19) (hw : p3 &&& 3 = 1) (hd : ¬ z2 = 0) : xt_Met l yX5_put [Cond.code yX5_put cX5_put 6 (some .int)] ({ frames := 8, cells := 2, slots := 9, locals := 180 } : Room) (xP s0 (dC, dI) [.ref b, .int p1, .int p2, .int p3, .int p4] [(b, .inr (5, [.ref ro, .ref gr, .ref br, .int wr, .int ca])), (br, .inr (1, [.ref pl, .int z1, .int z2, .int z3]))]) "java/lang/ArrayStoreException" 2 9 := by
  refine xt_ofW (cc := cX5_put) (maxL := 6) (ret := (some .int)) (by decide) rfl ?_
  intro p e s m args below meth c s₁ B hml hout hv
  obtain ⟨rfl, hb0, hP⟩ := hv
  have hx := B.exec
  have hb := B.bytes
  have hr := B.returns
  have hown : s.vm.findClass RX5 = some m.cls := findClass_of_methodNamed B.named
  have hlocks := B.notSynchronized
  have hK := h.K hb0
  have hS : va_S (fun _ : Nat => False) s.heap s.heap [] := va_S.rf
  have hz : ∀ q : Nat, (fun _ : Nat => False) q → s0.heap.size ≤ q := fun _ z => z.elim
  have hl := lv_entry ([.ref b, .int p1, .int p2, .int p3, .int p4]) (n := 6) (Nat.le_of_ble_eq_true rfl)
  rw [lg_entry_eq]
  generalize (lg_sl ([.ref b, .int p1, .int p2, .int p3, .int p4]) ++ List.replicate (6 - (lg_sl ([.ref b, .int p1, .int p2, .int p3, .int p4])).length) Slot.unset).toArray = ls at hl ⊢
  have hl : lv_has ls 6 [(0, .ref b), (1, .int p1), (2, .int p2), (3, .int p3), (4, .int p4)] := hl
  refine lv_aload_n hx hb dX5_put_0 rfl (lv_at hl 0 rfl) ?_
  refine va_get (D := (dC, dI)) (ci := 5) (v := .ref br) (C := RX5) (T := TX5) (N := 5) hx hb (ly_5 h hb0) (fun _ z => z) hown hK hP 0 rfl rfl 2 (by decide) (k_112 h hb0) (fun _ z => z) rfl dX5_put_1 ?_
  refine xr_1 (va_runV (As := []) (rest := []) ⟨hx, hb, hml, hown, xTs⟩ (c_bisMade h br pl z1 z2 z3 hm) ⟨xB (n := 0) (k_364 h hb0) (k_4 h hb0) (k_361 h hb0) (by decide) rfl rfl rfl (by decide) (by decide), (k_362 h hb0), (k_363 h hb0)⟩ (xpV hb0 hS hz (va_P.sub hP [1] rfl) (va_recv hK hP (ci := 1) (q0 := 1) rfl rfl)) rfl rfl hl.1 rfl (lv_room (Nat.le_of_ble_eq_true rfl)) dX5_put_4 ⟨(Nat.le_of_ble_eq_true rfl), (Nat.le_of_ble_eq_true rfl)⟩) ?_
  refine lv_if_eq (tgt := 18) hx hb dX5_put_7 (by decide) (fun c_1 => ?_) (fun c_1 => ?_)
  · exact absurd c_1 ht
  · refine lv_iload_n hx hb dX5_put_10 rfl (lv_at hl 1 rfl) ?_
    refine lv_if_eq (tgt := 18) hx hb dX5_put_11 (by decide) (fun c_2 => ?_) (fun c_2 => ?_)
    · exact absurd c_2 hp
    · refine lv_iconst (v := 1) hx hb dX5_put_14 (by decide) ?_
      refine lv_goto (tgt := 19) hx hb dX5_put_15 (by decide) ?_
      refine xr_0 (va_runS (As := [.int 1]) (rest := []) ⟨hx, hb, hml, hown, xTs⟩ (c_needThere h _ (by decide)) ⟨xB (n := 1) (k_140 h hb0) (k_1 h hb0) (k_138 h hb0) (by decide) rfl rfl rfl (by decide) (by decide), (k_139 h hb0)⟩ (xpS hb0 hS hz (va_P.sub hP [] rfl)) rfl rfl hl.1 rfl (lv_room (Nat.le_of_ble_eq_true rfl)) dX5_put_19 ⟨(Nat.le_of_ble_eq_true rfl), (Nat.le_of_ble_eq_true rfl)⟩) ?_
      refine lv_iload_n hx hb dX5_put_22 rfl (lv_at hl 2 rfl) ?_
      refine lv_aload_n hx hb dX5_put_23 rfl (lv_at hl 0 rfl) ?_
      refine va_get (D := (dC, dI)) (ci := 5) (v := .ref br) (C := RX5) (T := TX5) (N := 5) hx hb (ly_5 h hb0) (fun _ z => z) hown hK hP 0 rfl rfl 2 (by decide) (k_112 h hb0) (fun _ z => z) rfl dX5_put_24 ?_
      refine xr_1 (va_runV (As := []) (rest := [.int p2]) ⟨hx, hb, hml, hown, xTs⟩ (c_bplaceCount h br pl z1 z2 z3) ⟨xB (n := 0) (k_368 h hb0) (k_4 h hb0) (k_365 h hb0) (by decide) rfl rfl rfl (by decide) (by decide), (k_366 h hb0), (k_367 h hb0)⟩ (xpV hb0 hS hz (va_P.sub hP [1] rfl) (va_recv hK hP (ci := 1) (q0 := 1) rfl rfl)) rfl rfl hl.1 rfl (lv_room (Nat.le_of_ble_eq_true rfl)) dX5_put_27 ⟨(Nat.le_of_ble_eq_true rfl), (Nat.le_of_ble_eq_true rfl)⟩) ?_
      refine xr_0 (va_runS (As := [.int p2, .int z3]) (rest := []) ⟨hx, hb, hml, hown, xTs⟩ (c_needPlace h _ _ h0 h1) ⟨xB (n := 2) (k_232 h hb0) (k_1 h hb0) (k_230 h hb0) (by decide) rfl rfl rfl (by decide) (by decide), (k_231 h hb0)⟩ (xpS hb0 hS hz (va_P.sub hP [] rfl)) rfl rfl hl.1 rfl (lv_room (Nat.le_of_ble_eq_true rfl)) dX5_put_30 ⟨(Nat.le_of_ble_eq_true rfl), (Nat.le_of_ble_eq_true rfl)⟩) ?_
      refine lv_iload_n hx hb dX5_put_33 rfl (lv_at hl 3 rfl) ?_
      refine lv_iload hx hb dX5_put_34 (lv_at hl 4 rfl) ?_
      have hS : va_S (va_A [] s.heap.size) s.heap s.heap [] := va_S.rf
      have hz : ∀ q : Nat, va_A [] s.heap.size q → s0.heap.size ≤ q := fun q z => Nat.le_trans hb0.2.1 (xnew_A z)
      have hPn : va_P (dC, dI) vwCl [] s.heap := va_P.sub hP [] rfl
      refine xm_of (ws := []) (wc := []) (wo := []) (va_runS (As := [.int p3, .int p4]) (rest := []) ⟨hx, hb, hml, hown, xTs⟩ (c_newBox_b h _ _ _ hw) ⟨xB (n := 2) (k_371 h hb0) (k_1 h hb0) (k_369 h hb0) (by decide) rfl rfl rfl (by decide) (by decide), (k_370 h hb0)⟩ (xpMS (wr := []) (wc := []) hb0 hS hz hPn hPn xD_nil) rfl rfl hl.1 rfl (lv_room (Nat.le_of_ble_eq_true rfl)) dX5_put_36 ⟨(Nat.le_of_ble_eq_true rfl), (Nat.le_of_ble_eq_true rfl)⟩) hPn (A0 := va_A [] s.heap.size) xD_nil hS (fun q h => Or.inr h) [] [] rfl rfl rfl (by decide) (fun r w1 H locs hΦ hPq hDq hS => ?_)
      obtain ⟨q, rfl, rfl⟩ := hΦ
      have hP : va_P (dC, dI) vwCl [(b, .inr (5, [.ref ro, .ref gr, .ref br, .int wr, .int ca])), (br, .inr (1, [.ref pl, .int z1, .int z2, .int z3])), (q, .inr (0, [.int p4]))] H := va_P.app (xkeep hP hS (fun q z => xnew_A z)) hPq
      refine va_forget (fun q hq => xnew_A (hS.2.2 q hq)) ?_
      have hS : va_S (va_A [] s.heap.size) s.heap H [] := ⟨hS.1, hS.2.1, fun _ z => nomatch z⟩
      show W _ _ _ _ _ _ _ _ _ _ _ _ _ _ _ (F0 m 39 ls [.ref q])
      refine lv_astore (lv' := [(5, .ref q), (0, .ref b), (1, .int p1), (2, .int p2), (3, .int p3), (4, .int p4)]) hx hb dX5_put_39 hl (by decide) rfl (fun ls hl => ?_)
      refine lv_aload_n hx hb dX5_put_41 rfl (lv_at hl 1 rfl) ?_
      refine va_get (D := (dC, dI)) (ci := 5) (v := .ref br) (C := RX5) (T := TX5) (N := 5) hx hb (ly_5 h hb0) (fun _ z => z) hown hK hP 0 rfl rfl 2 (by decide) (k_112 h hb0) (fun _ z => z) rfl dX5_put_42 ?_
      refine lv_aload hx hb dX5_put_45 (lv_at hl 0 rfl) ?_
      refine xr_1 (va_runV (As := [.ref q]) (rest := []) ⟨hx, hb, hml, hown, xTs⟩ (c_takes_b h br pl z1 z2 z3 q p4 hd) ⟨xB (n := 1) (k_396 h hb0) (k_4 h hb0) (k_393 h hb0) (by decide) rfl rfl rfl (by decide) (by decide), (k_394 h hb0), (k_395 h hb0)⟩ (xpV hb0 hS hz (va_P.sub hP [1, 2] rfl) (va_recv hK hP (ci := 1) (q0 := 1) rfl rfl)) rfl rfl hl.1 rfl (lv_room (Nat.le_of_ble_eq_true rfl)) dX5_put_47 ⟨(Nat.le_of_ble_eq_true rfl), (Nat.le_of_ble_eq_true rfl)⟩) ?_
      refine lv_if_ne (tgt := 63) hx hb dX5_put_50 (by decide) (fun c_3 => ?_) (fun c_3 => ?_)
      · exact absurd rfl c_3
      · exact xt_throwS (own := RX5) (names := ["java/lang/RuntimeException", "java/lang/Exception"]) hx hb h.1 hown (by decide) (by decide) (k_398 h hb0) (k_15 h hb0) (k_407 h hb0) (xo_101 h hb0) (hl.1.trans hml.symm) hout hlocks dX5_put_53 dX5_put_56 dX5_put_57 dX5_put_59 dX5_put_62 (by decide) (by decide) (by decide) (by decide) (by decide) (by decide)
