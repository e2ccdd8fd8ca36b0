/-! The law's own methods: each calls one method of the bench and catches what the document names. -/
theorem xtab {y : MethodName} {bytes : ByteArray} {maxL : Nat} {ret : Option FieldType} {hh : List (Nat × Nat × Nat × Nat)} {a : Array Value} {s : State} {m : MethodId} {meth : Method} {c : Code} (h : (Cond.codeWith y bytes maxL ret hh).before a s = true) (hn : s.methodNamed? y = some m) (hm : s.vm.method? m = some meth) (hc : meth.code = some c) :
    c.exceptionTable.toList = hh.map (fun q => (⟨q.1, q.2.1, q.2.2.1, q.2.2.2⟩ : ExceptionTableEntry)) := by
  obtain ⟨m9, meth9, c9, h1, h2, h3, -, -, h4, -⟩ := Cond.codeWith_spec h
  cases hn.symm.trans h1
  cases hm.symm.trans h2
  cases hc.symm.trans h3
  rw [← h4, List.map_map]
  exact (List.map_id' _).symm.trans (by rfl)
section XWC
variable {p : Program} {l : Launch} {e : Env} {R : Room} {s : State} {m : MethodId} {args : Array Value} {below : List Frame} {meth : Method} {c : Code} {H : Heap} {locs : List Loc} {cells slots : Nat} {Q : State → Prop}
variable {y : MethodName} {bytes cc : ByteArray} {maxL nL mc ms n index : Nat} {ret : Option FieldType} {hh : List (Nat × Nat × Nat × Nat)} {rm : Room} {Pc : Array Value → State → Prop} {Qc : Array Value → State → Outcome → State → Prop} {free : Addr → Prop} {own : String} {As rest : List Value} {g : JFrame}
/-- a static call of a method with handlers -/
theorem xw_runS (hx : p.tables.exec = Jvm.exec) (hb : c.code = cc) (hml : c.maxLocals = nL) (ho : s.vm.findClass own = some m.cls) (hM : Met l y [Cond.codeWith y bytes maxL ret hh] rm Pc Qc mc ms free)
    (hcode : (Cond.codeWith y bytes maxL ret hh).before args s = true) (hini : (Cond.initialized y.cls).before args s = true) (hl : (Cond.methodLink own index y).before args s = true) (hstt : (Cond.static y).before args s = true)
    (hy : y.cls ≠ "java/lang/invoke/MethodHandle" ∧ y.cls ≠ "java/lang/invoke/VarHandle") (hlen : (parseMethodDescriptor y.desc).map (fun d => d.parameters.length) = some n) (hrc : rm.cells = mc) (hrs : rm.slots = ms) (hR : rm.frames + 1 ≤ R.frames) (hR2 : 8 + (maxL + 11) + rm.locals ≤ R.locals)
    (hp : PreS s H Pc As) (hg : g.method = m) (hn : As.length = n) (hsize : g.locals.size = nL) (hstack : g.stack = As.reverse ++ rest) (hW : 2 * g.monitorRoom + (rest.map fun v => v.category).sum ≤ 8) (hdg : decode cc g.pc = .ok (.invokestatic index, 3)) (hf : cells + mc ≤ R.cells ∧ slots + ms ≤ R.slots) :
    va_Run p l e R s m args below meth c H locs cells slots mc ms g rest (Qc As.toArray) (free) := by
  have hK : Back l R p e below s args y 3 8 (PreOf R mc ms Pc) (PostOf Qc mc ms free) := va_backW hM hp.1 hrc hrs hR hR2 (fun w hw a' U hW => by
    rw [List.mem_singleton] at hw
    rw [hw]
    exact xg_at hW rfl hcode) List.mem_cons_self (fun a' U hW => xg_at hW rfl hini)
  intro T hT X
  obtain ⟨mk, methM, cM, hnamed, hmethM, -, -, -, -, -, -, hsigM⟩ := Cond.codeWith_spec hcode
  have hstatic : methM.isStatic = true := Cond.static_spec hnamed hmethM hstt
  obtain ⟨kP, hkP, -⟩ := className_of_methodNamed hnamed
  have hinitP : kP.init = .initialized := Cond.initialized_spec (findClass_of_methodNamed hnamed) hkP hini
  have hln : As.length = methM.sig.parameters.length := by
    rw [hsigM] at hlen
    exact hn.trans (Option.some.inj hlen).symm
  obtain ⟨vm₁, X₁, hstep₁⟩ := X.invokestatic hx ho hl hnamed hmethM hstatic hkP hinitP hy (g := g) hg (argsL := As) (rest := rest) hln hstack (by rw [hb]; exact hdg)
  obtain ⟨v, ⟨U', l2, c2, s2⟩, X', ⟨g', mk', t, L, e1, e2, hq, h1, hL, h2, h3⟩, hsteps⟩ := hK m meth c ⟨T.setVm vm₁, locs, cells, slots⟩ { g with stack := rest } (.invokestatic index) mk As.toArray X₁ hg (hsize.trans hml.symm) (by rw [hb]; exact hdg) hW (X₁.named hnamed) ⟨hf.1, hf.2, hp.2 (T.setVm vm₁) hT X₁.warmed⟩
  dsimp only [Pt.U, Pt.locs, Pt.cells, Pt.slots] at X' e1 e2 h1 h2 h3 hsteps
  subst h1; subst h2; subst h3
  exact ⟨v, (T.setVm vm₁).calling g' mk' As.toArray, t, U', L, hT, X', hL, e1, e2, hq, fun target h => hstep₁ _ fun acts => by rw [doInvoke_state]; exact hsteps.trans h⟩
end XWC
theorem xin0 : vp_in 0 1 := vp_in_nI (n := 0) (by decide) (by decide)
theorem xnone {P : ExceptionTableEntry → Prop} : ∀ z ∈ ([] : List ExceptionTableEntry), P z := fun z h => nomatch h
set_option maxRecDepth 100000 in
theorem nc_IN {l : Launch} {s0 : State} {a0 : Array Value} {dC : Nat → ClassId} {dI : Nat → Nat → Nat} {cA : Nat → ClassId} {s : State} (h : xC l s0 a0 dC dI cA) (hb : xb s0 s) : va_Nc "java/lang/ArrayIndexOutOfBoundsException" "java/lang/NullPointerException" s := h.nc hb (by decide +kernel)
set_option maxRecDepth 100000 in
theorem nc_TN {l : Launch} {s0 : State} {a0 : Array Value} {dC : Nat → ClassId} {dI : Nat → Nat → Nat} {cA : Nat → ClassId} {s : State} (h : xC l s0 a0 dC dI cA) (hb : xb s0 s) : va_Nc "java/lang/ArrayStoreException" "java/lang/NullPointerException" s := h.nc hb (by decide +kernel)
set_option maxRecDepth 100000 in
theorem nc_TI {l : Launch} {s0 : State} {a0 : Array Value} {dC : Nat → ClassId} {dI : Nat → Nat → Nat} {cA : Nat → ClassId} {s : State} (h : xC l s0 a0 dC dI cA) (hb : xb s0 s) : va_Nc "java/lang/ArrayStoreException" "java/lang/ArrayIndexOutOfBoundsException" s := h.nc hb (by decide +kernel)
set_option maxRecDepth 100000 in
theorem nc_CN {l : Launch} {s0 : State} {a0 : Array Value} {dC : Nat → ClassId} {dI : Nat → Nat → Nat} {cA : Nat → ClassId} {s : State} (h : xC l s0 a0 dC dI cA) (hb : xb s0 s) : va_Nc "java/lang/ClassCastException" "java/lang/NullPointerException" s := h.nc hb (by decide +kernel)
set_option maxRecDepth 100000 in
theorem nc_CI {l : Launch} {s0 : State} {a0 : Array Value} {dC : Nat → ClassId} {dI : Nat → Nat → Nat} {cA : Nat → ClassId} {s : State} (h : xC l s0 a0 dC dI cA) (hb : xb s0 s) : va_Nc "java/lang/ClassCastException" "java/lang/ArrayIndexOutOfBoundsException" s := h.nc hb (by decide +kernel)
set_option maxRecDepth 100000 in
theorem nc_ZN {l : Launch} {s0 : State} {a0 : Array Value} {dC : Nat → ClassId} {dI : Nat → Nat → Nat} {cA : Nat → ClassId} {s : State} (h : xC l s0 a0 dC dI cA) (hb : xb s0 s) : va_Nc "java/lang/ArithmeticException" "java/lang/NullPointerException" s := h.nc hb (by decide +kernel)
set_option maxHeartbeats 4000000 in
set_option maxRecDepth 100000 in
theorem l_c_read {l : Launch} {s0 : State} {a0 : Array Value} {dC : Nat → ClassId} {dI : Nat → Nat → Nat} {cA : Nat → ClassId} (h : xC l s0 a0 dC dI cA) (b gr br : Nat) (wr ca : Int32) (ro b0 b1 b2 b3 b4 b5 b6 b7 b8 : Nat) (n : Nat → Int32) (g : Nat → Nat → Int32) (K : Nat) (p1 p2 p3 : Int32) (lk : Nat) (lf : Nat → Int64) (sz : Nat) (hKe : p1 &&& 7 = nI K) (hK8 : K < 8) (ht : ¬ p2 = 0) (h0 : ¬ p3 < 0) (h1 : p3 < n K) (hi : vp_in p3 39) : Met l yL_read [Cond.codeWith yL_read cL_read 6 (some .int) [(0, 11, 14, 13), (0, 11, 18, 15)]] ({ frames := 2, cells := 0, slots := 0, locals := 70 } : Room) (xPM s0 (dC, dI) [.ref b, .int p1, .int p2, .int p3, .ref lk] [(b, .inr (5, [.ref ro, .ref gr, .ref br, .int wr, .int ca])), (ro, .inr (4, [.ref b0, .ref b1, .ref b2, .ref b3, .ref b4, .ref b5, .ref b6, .ref b7, .ref b8])), (b0, .inl (cA 0, 8, .inl n)), (b1, .inl (cA 0, 39, .inl (r0 g))), (b2, .inl (cA 1, 39, .inr (.inl (r1 g)))), (b3, .inl (cA 2, 39, .inl (r2 g))), (b4, .inl (cA 3, 39, .inl (r3 g))), (b5, .inl (cA 4, 39, .inl (r4 g))), (b6, .inl (cA 5, 39, .inl (r5 g))), (b7, .inl (cA 6, 39, .inr (.inr (.inl (r6 g))))), (b8, .inl (cA 7, 39, .inr (.inr (.inr (.inl (r7 g))))))] [(lk, .inl (cA 1, 1, .inr (.inl lf)))] sz) (xQM (dC, dI) (va_A [(lk, .inl (cA 1, 1, .inr (.inl lf)))] sz) (fun r w1 => r = some (.int 0) ∧ w1 = [(lk, .inl (cA 1, 1, .inr (.inl (vp_updL lf 0 ((rd K (g K p3.toNatClampNeg)))))))])) 0 0 (va_A [(lk, .inl (cA 1, 1, .inr (.inl lf)))] sz) := by
  refine va_MetW (cc := cL_read) (maxL := 6) (ret := (some .int)) (hh := [(0, 11, 14, 13), (0, 11, 18, 15)]) (by decide) rfl ?_
  intro p e s m args below meth c s₁ B hml hv
  obtain ⟨rfl, rfl, hb0, hPr, hP, hD0⟩ := hv
  have hx := B.exec
  have hb := B.bytes
  have hr := B.returns
  have hown : s.vm.findClass RL = some m.cls := findClass_of_methodNamed B.named
  have hlocks := B.notSynchronized
  have hK := h.K hb0
  have htab : c.exceptionTable.toList = [⟨0, 11, 14, 13⟩, ⟨0, 11, 18, 15⟩] := xtab (k_128 (args := #[]) h hb0) B.named B.method (Stand.of_body B).code
  have hS : va_S (va_A [(lk, .inl (cA 1, 1, .inr (.inl lf)))] s.heap.size) s.heap s.heap [] := va_S.rf
  obtain ⟨A, hAe, hD, hA, hz, hRo, hwk, hnR⟩ := xM_start hb0 hPr hP hD0
  rw [hAe] at hS ⊢
  have hl := lv_entry ([.ref b, .int p1, .int p2, .int p3, .ref lk]) (n := 6) (Nat.le_of_ble_eq_true rfl)
  rw [lg_entry_eq]
  generalize (lg_sl ([.ref b, .int p1, .int p2, .int p3, .ref lk]) ++ List.replicate (6 - (lg_sl ([.ref b, .int p1, .int p2, .int p3, .ref lk])).length) Slot.unset).toArray = ls at hl ⊢
  have hl : lv_has ls 6 [(0, .ref b), (1, .int p1), (2, .int p2), (3, .int p3), (4, .ref lk)] := hl
  refine lv_aload hx hb dL_read_0 (lv_at hl 4 rfl) ?_
  refine lv_iconst (v := 0) hx hb dL_read_2 (by decide) ?_
  refine lv_aload_n hx hb dL_read_3 rfl (lv_at hl 0 rfl) ?_
  refine lv_iload_n hx hb dL_read_4 rfl (lv_at hl 1 rfl) ?_
  refine lv_iload_n hx hb dL_read_5 rfl (lv_at hl 2 rfl) ?_
  refine lv_iload_n hx hb dL_read_6 rfl (lv_at hl 3 rfl) ?_
  refine xr_1 (va_runV (As := [.int p1, .int p2, .int p3]) (rest := [.int 0, .ref lk]) ⟨hx, hb, hml, hown, xTs⟩ (c_read h b gr br wr ca ro b0 b1 b2 b3 b4 b5 b6 b7 b8 n g K p1 p2 p3 hKe hK8 ht h0 h1 hi) ⟨xB (n := 3) (k_134 h hb0) (k_1 h hb0) (k_131 h hb0) (by decide) rfl rfl rfl (by decide) (by decide), (k_132 h hb0), (k_133 h hb0)⟩ (xpV hb0 hS hz (va_P.sub (hRo _ _ hS) [0, 1, 2, 3, 4, 5, 6, 7, 8, 9, 10] rfl) (va_recv hK (hRo _ _ hS) (ci := 5) (q0 := 0) rfl rfl)) rfl rfl hl.1 rfl (lv_room (Nat.le_of_ble_eq_true rfl)) dL_read_7 ⟨(Nat.le_of_ble_eq_true rfl), (Nat.le_of_ble_eq_true rfl)⟩) ?_
  refine va_last hx hb hK hP hD hS 0 1 rfl rfl xin0 dL_read_10 (fun H locs hP hD hS => ?_)
  have hP : va_P (dC, dI) vwCl [(lk, .inl (cA 1, 1, .inr (.inl (vp_updL lf (0 : Int32).toNatClampNeg (rd K (g K p3.toNatClampNeg))))))] H := hP
  have hD : va_D A [(lk, .inl (cA 1, 1, .inr (.inl (vp_updL lf (0 : Int32).toNatClampNeg (rd K (g K p3.toNatClampNeg))))))] := hD
  refine lv_goto (tgt := 22) hx hb dL_read_11 (by decide) ?_
  refine lv_iconst (v := 0) hx hb dL_read_22 (by decide) ?_
  exact W.iret hx hb hr (fun t ht _ => ⟨(some (.int 0)), _, rfl, ⟨rfl, rfl⟩, by rw [ht]; exact hP, hD, hS.F ht⟩) (fun q z => hS.2.2 q z) dL_read_23
set_option maxHeartbeats 4000000 in
set_option maxRecDepth 100000 in
theorem l_t_read_N {l : Launch} {s0 : State} {a0 : Array Value} {dC : Nat → ClassId} {dI : Nat → Nat → Nat} {cA : Nat → ClassId} (h : xC l s0 a0 dC dI cA) (b gr br : Nat) (wr ca : Int32) (ro b0 b1 b2 b3 b4 b5 b6 b7 b8 : Nat) (n : Nat → Int32) (g : Nat → Nat → Int32) (K : Nat) (p1 p2 p3 : Int32) (lk : Nat) (lf : Nat → Int64) (sz : Nat) (hKe : p1 &&& 7 = nI K) (hK8 : K < 8) (ht : p2 = 0) : Met l yL_read [Cond.codeWith yL_read cL_read 6 (some .int) [(0, 11, 14, 13), (0, 11, 18, 15)]] ({ frames := 9, cells := 1, slots := 8, locals := 170 } : Room) (xPM s0 (dC, dI) [.ref b, .int p1, .int p2, .int p3, .ref lk] [(b, .inr (5, [.ref ro, .ref gr, .ref br, .int wr, .int ca])), (ro, .inr (4, [.ref b0, .ref b1, .ref b2, .ref b3, .ref b4, .ref b5, .ref b6, .ref b7, .ref b8])), (b0, .inl (cA 0, 8, .inl n))] [(lk, .inl (cA 1, 1, .inr (.inl lf)))] sz) (xQM (dC, dI) (va_A [(lk, .inl (cA 1, 1, .inr (.inl lf)))] sz) (fun r w1 => r = some (.int 1) ∧ w1 = [(lk, .inl (cA 1, 1, .inr (.inl lf)))])) 1 8 (va_A [(lk, .inl (cA 1, 1, .inr (.inl lf)))] sz) := by
  refine va_MetW (cc := cL_read) (maxL := 6) (ret := (some .int)) (hh := [(0, 11, 14, 13), (0, 11, 18, 15)]) (by decide) rfl ?_
  intro p e s m args below meth c s₁ B hml hv
  obtain ⟨rfl, rfl, hb0, hPr, hP, hD0⟩ := hv
  have hx := B.exec
  have hb := B.bytes
  have hr := B.returns
  have hown : s.vm.findClass RL = some m.cls := findClass_of_methodNamed B.named
  have hlocks := B.notSynchronized
  have hK := h.K hb0
  have htab : c.exceptionTable.toList = [⟨0, 11, 14, 13⟩, ⟨0, 11, 18, 15⟩] := xtab (k_128 (args := #[]) h hb0) B.named B.method (Stand.of_body B).code
  have hS : va_S (va_A [(lk, .inl (cA 1, 1, .inr (.inl lf)))] s.heap.size) s.heap s.heap [] := va_S.rf
  obtain ⟨A, hAe, hD, hA, hz, hRo, hwk, hnR⟩ := xM_start hb0 hPr hP hD0
  rw [hAe] at hS ⊢
  have hl := lv_entry ([.ref b, .int p1, .int p2, .int p3, .ref lk]) (n := 6) (Nat.le_of_ble_eq_true rfl)
  rw [lg_entry_eq]
  generalize (lg_sl ([.ref b, .int p1, .int p2, .int p3, .ref lk]) ++ List.replicate (6 - (lg_sl ([.ref b, .int p1, .int p2, .int p3, .ref lk])).length) Slot.unset).toArray = ls at hl ⊢
  have hl : lv_has ls 6 [(0, .ref b), (1, .int p1), (2, .int p2), (3, .int p3), (4, .ref lk)] := hl
  refine lv_aload hx hb dL_read_0 (lv_at hl 4 rfl) ?_
  refine lv_iconst (v := 0) hx hb dL_read_2 (by decide) ?_
  refine lv_aload_n hx hb dL_read_3 rfl (lv_at hl 0 rfl) ?_
  refine lv_iload_n hx hb dL_read_4 rfl (lv_at hl 1 rfl) ?_
  refine lv_iload_n hx hb dL_read_5 rfl (lv_at hl 2 rfl) ?_
  refine lv_iload_n hx hb dL_read_6 rfl (lv_at hl 3 rfl) ?_
  refine xt_callV (As := [.int p1, .int p2, .int p3]) (rest := [.int 0, .ref lk]) ⟨hx, hb, hml, hown, xTs⟩ (t_read_N h b gr br wr ca ro b0 b1 b2 b3 b4 b5 b6 b7 b8 n g K p1 p2 p3 hKe hK8 ht) ⟨xB (n := 3) (k_134 h hb0) (k_1 h hb0) (k_131 h hb0) (by decide) rfl rfl rfl (by decide) (by decide), (k_132 h hb0), (k_133 h hb0)⟩ (xpV hb0 hS hz (va_P.sub (hRo _ _ hS) [0, 1, 2] rfl) (va_recv hK (hRo _ _ hS) (ci := 5) (q0 := 0) rfl rfl)) rfl rfl hl.1 rfl (lv_room (Nat.le_of_ble_eq_true rfl)) dL_read_7 ⟨(Nat.le_of_ble_eq_true rfl), (Nat.le_of_ble_eq_true rfl)⟩ (fun q ce H h1 h2 h3 h4 h5 => ?_)
  refine xt_catch hown [] ⟨0, 11, 14, 13⟩ [⟨0, 11, 18, 15⟩] htab xnone rfl (by decide) (k_129 h hb0) (k_143 h hb0) h1 h2 h3 ?_
  have hP := xgrow hP h5
  have hS := xgrowS hS h4 h5
  show W _ _ _ _ _ _ _ _ _ _ _ _ _ _ _ (F0 m 14 ls [.ref q])
  refine lv_astore (lv' := [(5, .ref q), (0, .ref b), (1, .int p1), (2, .int p2), (3, .int p3), (4, .ref lk)]) hx hb dL_read_14 hl (by decide) rfl (fun ls hl => ?_)
  refine lv_iconst (v := 1) hx hb dL_read_16 (by decide) ?_
  exact W.iret hx hb hr (fun t ht _ => ⟨(some (.int 1)), _, rfl, ⟨rfl, rfl⟩, by rw [ht]; exact hP, hD, hS.F ht⟩) (fun q z => hS.2.2 q z) dL_read_17
set_option maxHeartbeats 4000000 in
set_option maxRecDepth 100000 in
theorem l_t_read_A {l : Launch} {s0 : State} {a0 : Array Value} {dC : Nat → ClassId} {dI : Nat → Nat → Nat} {cA : Nat → ClassId} (h : xC l s0 a0 dC dI cA) (b gr br : Nat) (wr ca : Int32) (ro b0 b1 b2 b3 b4 b5 b6 b7 b8 : Nat) (n : Nat → Int32) (g : Nat → Nat → Int32) (K : Nat) (p1 p2 p3 : Int32) (lk : Nat) (lf : Nat → Int64) (sz : Nat) (hKe : p1 &&& 7 = nI K) (hK8 : K < 8) (ht : ¬ p2 = 0) (hc : p3 < 0 ∨ ¬ p3 < n K) : Met l yL_read [Cond.codeWith yL_read cL_read 6 (some .int) [(0, 11, 14, 13), (0, 11, 18, 15)]] ({ frames := 9, cells := 1, slots := 8, locals := 170 } : Room) (xPM s0 (dC, dI) [.ref b, .int p1, .int p2, .int p3, .ref lk] [(b, .inr (5, [.ref ro, .ref gr, .ref br, .int wr, .int ca])), (ro, .inr (4, [.ref b0, .ref b1, .ref b2, .ref b3, .ref b4, .ref b5, .ref b6, .ref b7, .ref b8])), (b0, .inl (cA 0, 8, .inl n))] [(lk, .inl (cA 1, 1, .inr (.inl lf)))] sz) (xQM (dC, dI) (va_A [(lk, .inl (cA 1, 1, .inr (.inl lf)))] sz) (fun r w1 => r = some (.int 2) ∧ w1 = [(lk, .inl (cA 1, 1, .inr (.inl lf)))])) 1 8 (va_A [(lk, .inl (cA 1, 1, .inr (.inl lf)))] sz) := by
  refine va_MetW (cc := cL_read) (maxL := 6) (ret := (some .int)) (hh := [(0, 11, 14, 13), (0, 11, 18, 15)]) (by decide) rfl ?_
  intro p e s m args below meth c s₁ B hml hv
  obtain ⟨rfl, rfl, hb0, hPr, hP, hD0⟩ := hv
  have hx := B.exec
  have hb := B.bytes
  have hr := B.returns
  have hown : s.vm.findClass RL = some m.cls := findClass_of_methodNamed B.named
  have hlocks := B.notSynchronized
  have hK := h.K hb0
  have htab : c.exceptionTable.toList = [⟨0, 11, 14, 13⟩, ⟨0, 11, 18, 15⟩] := xtab (k_128 (args := #[]) h hb0) B.named B.method (Stand.of_body B).code
  have hS : va_S (va_A [(lk, .inl (cA 1, 1, .inr (.inl lf)))] s.heap.size) s.heap s.heap [] := va_S.rf
  obtain ⟨A, hAe, hD, hA, hz, hRo, hwk, hnR⟩ := xM_start hb0 hPr hP hD0
  rw [hAe] at hS ⊢
  have hl := lv_entry ([.ref b, .int p1, .int p2, .int p3, .ref lk]) (n := 6) (Nat.le_of_ble_eq_true rfl)
  rw [lg_entry_eq]
  generalize (lg_sl ([.ref b, .int p1, .int p2, .int p3, .ref lk]) ++ List.replicate (6 - (lg_sl ([.ref b, .int p1, .int p2, .int p3, .ref lk])).length) Slot.unset).toArray = ls at hl ⊢
  have hl : lv_has ls 6 [(0, .ref b), (1, .int p1), (2, .int p2), (3, .int p3), (4, .ref lk)] := hl
  refine lv_aload hx hb dL_read_0 (lv_at hl 4 rfl) ?_
  refine lv_iconst (v := 0) hx hb dL_read_2 (by decide) ?_
  refine lv_aload_n hx hb dL_read_3 rfl (lv_at hl 0 rfl) ?_
  refine lv_iload_n hx hb dL_read_4 rfl (lv_at hl 1 rfl) ?_
  refine lv_iload_n hx hb dL_read_5 rfl (lv_at hl 2 rfl) ?_
  refine lv_iload_n hx hb dL_read_6 rfl (lv_at hl 3 rfl) ?_
  refine xt_callV (As := [.int p1, .int p2, .int p3]) (rest := [.int 0, .ref lk]) ⟨hx, hb, hml, hown, xTs⟩ (t_read_A h b gr br wr ca ro b0 b1 b2 b3 b4 b5 b6 b7 b8 n g K p1 p2 p3 hKe hK8 ht hc) ⟨xB (n := 3) (k_134 h hb0) (k_1 h hb0) (k_131 h hb0) (by decide) rfl rfl rfl (by decide) (by decide), (k_132 h hb0), (k_133 h hb0)⟩ (xpV hb0 hS hz (va_P.sub (hRo _ _ hS) [0, 1, 2] rfl) (va_recv hK (hRo _ _ hS) (ci := 5) (q0 := 0) rfl rfl)) rfl rfl hl.1 rfl (lv_room (Nat.le_of_ble_eq_true rfl)) dL_read_7 ⟨(Nat.le_of_ble_eq_true rfl), (Nat.le_of_ble_eq_true rfl)⟩ (fun q ce H h1 h2 h3 h4 h5 => ?_)
  refine xt_catch hown [⟨0, 11, 14, 13⟩] ⟨0, 11, 18, 15⟩ [] htab (fun z hz2 => by rw [List.mem_singleton] at hz2; rw [hz2]; exact ⟨rfl, by decide, _, k_129 h hb0, nc_IN h hb0⟩) rfl (by decide) (k_130 h hb0) (k_235 h hb0) h1 h2 h3 ?_
  have hP := xgrow hP h5
  have hS := xgrowS hS h4 h5
  show W _ _ _ _ _ _ _ _ _ _ _ _ _ _ _ (F0 m 18 ls [.ref q])
  refine lv_astore (lv' := [(5, .ref q), (0, .ref b), (1, .int p1), (2, .int p2), (3, .int p3), (4, .ref lk)]) hx hb dL_read_18 hl (by decide) rfl (fun ls hl => ?_)
  refine lv_iconst (v := 2) hx hb dL_read_20 (by decide) ?_
  exact W.iret hx hb hr (fun t ht _ => ⟨(some (.int 2)), _, rfl, ⟨rfl, rfl⟩, by rw [ht]; exact hP, hD, hS.F ht⟩) (fun q z => hS.2.2 q z) dL_read_21
set_option maxHeartbeats 4000000 in
set_option maxRecDepth 100000 in
theorem l_c_write {l : Launch} {s0 : State} {a0 : Array Value} {dC : Nat → ClassId} {dI : Nat → Nat → Nat} {cA : Nat → ClassId} (h : xC l s0 a0 dC dI cA) (b gr br : Nat) (wr ca : Int32) (ro b0 b1 b2 b3 b4 b5 b6 b7 b8 : Nat) (n : Nat → Int32) (g : Nat → Nat → Int32) (K : Nat) (p1 p2 p3 p4 : Int32) (lk : Nat) (lf : Nat → Int64) (sz : Nat) (hKe : p1 &&& 7 = nI K) (hK8 : K < 8) (ht : ¬ p2 = 0) (h0 : ¬ p3 < 0) (h1 : p3 < n K) (hi : vp_in p3 39) : Met l yL_write [Cond.codeWith yL_write cL_write 7 (some .int) [(0, 14, 17, 13), (0, 14, 21, 15)]] ({ frames := 2, cells := 0, slots := 0, locals := 70 } : Room) (xPM s0 (dC, dI) [.ref b, .int p1, .int p2, .int p3, .int p4, .ref lk] [(ro, .inr (4, [.ref b0, .ref b1, .ref b2, .ref b3, .ref b4, .ref b5, .ref b6, .ref b7, .ref b8])), (b0, .inl (cA 0, 8, .inl n))] [(lk, .inl (cA 1, 1, .inr (.inl lf))), (b, .inr (5, [.ref ro, .ref gr, .ref br, .int wr, .int ca])), (b1, .inl (cA 0, 39, .inl (r0 g))), (b2, .inl (cA 1, 39, .inr (.inl (r1 g)))), (b3, .inl (cA 2, 39, .inl (r2 g))), (b4, .inl (cA 3, 39, .inl (r3 g))), (b5, .inl (cA 4, 39, .inl (r4 g))), (b6, .inl (cA 5, 39, .inl (r5 g))), (b7, .inl (cA 6, 39, .inr (.inr (.inl (r6 g))))), (b8, .inl (cA 7, 39, .inr (.inr (.inr (.inl (r7 g))))))] sz) (xQM (dC, dI) (va_A [(lk, .inl (cA 1, 1, .inr (.inl lf))), (b, .inr (5, [.ref ro, .ref gr, .ref br, .int wr, .int ca])), (b1, .inl (cA 0, 39, .inl (r0 g))), (b2, .inl (cA 1, 39, .inr (.inl (r1 g)))), (b3, .inl (cA 2, 39, .inl (r2 g))), (b4, .inl (cA 3, 39, .inl (r3 g))), (b5, .inl (cA 4, 39, .inl (r4 g))), (b6, .inl (cA 5, 39, .inl (r5 g))), (b7, .inl (cA 6, 39, .inr (.inr (.inl (r6 g))))), (b8, .inl (cA 7, 39, .inr (.inr (.inr (.inl (r7 g))))))] sz) (fun r w1 => r = some (.int 0) ∧ w1 = [(lk, .inl (cA 1, 1, .inr (.inl (vp_updL lf 0 ((wr + 1).toInt64))))), (b, .inr (5, [.ref ro, .ref gr, .ref br, .int (wr + 1), .int ca])), (b1, .inl (cA 0, 39, .inl (r0 (gset g K p3.toNatClampNeg p4)))), (b2, .inl (cA 1, 39, .inr (.inl (r1 (gset g K p3.toNatClampNeg p4))))), (b3, .inl (cA 2, 39, .inl (r2 (gset g K p3.toNatClampNeg p4)))), (b4, .inl (cA 3, 39, .inl (r3 (gset g K p3.toNatClampNeg p4)))), (b5, .inl (cA 4, 39, .inl (r4 (gset g K p3.toNatClampNeg p4)))), (b6, .inl (cA 5, 39, .inl (r5 (gset g K p3.toNatClampNeg p4)))), (b7, .inl (cA 6, 39, .inr (.inr (.inl (r6 (gset g K p3.toNatClampNeg p4)))))), (b8, .inl (cA 7, 39, .inr (.inr (.inr (.inl (r7 (gset g K p3.toNatClampNeg p4)))))))])) 0 0 (va_A [(lk, .inl (cA 1, 1, .inr (.inl lf))), (b, .inr (5, [.ref ro, .ref gr, .ref br, .int wr, .int ca])), (b1, .inl (cA 0, 39, .inl (r0 g))), (b2, .inl (cA 1, 39, .inr (.inl (r1 g)))), (b3, .inl (cA 2, 39, .inl (r2 g))), (b4, .inl (cA 3, 39, .inl (r3 g))), (b5, .inl (cA 4, 39, .inl (r4 g))), (b6, .inl (cA 5, 39, .inl (r5 g))), (b7, .inl (cA 6, 39, .inr (.inr (.inl (r6 g))))), (b8, .inl (cA 7, 39, .inr (.inr (.inr (.inl (r7 g))))))] sz) := by
  refine va_MetW (cc := cL_write) (maxL := 7) (ret := (some .int)) (hh := [(0, 14, 17, 13), (0, 14, 21, 15)]) (by decide) rfl ?_
  intro p e s m args below meth c s₁ B hml hv
  obtain ⟨rfl, rfl, hb0, hPr, hP, hD0⟩ := hv
  have hx := B.exec
  have hb := B.bytes
  have hr := B.returns
  have hown : s.vm.findClass RL = some m.cls := findClass_of_methodNamed B.named
  have hlocks := B.notSynchronized
  have hK := h.K hb0
  have htab : c.exceptionTable.toList = [⟨0, 14, 17, 13⟩, ⟨0, 14, 21, 15⟩] := xtab (k_260 (args := #[]) h hb0) B.named B.method (Stand.of_body B).code
  have hS : va_S (va_A [(lk, .inl (cA 1, 1, .inr (.inl lf))), (b, .inr (5, [.ref ro, .ref gr, .ref br, .int wr, .int ca])), (b1, .inl (cA 0, 39, .inl (r0 g))), (b2, .inl (cA 1, 39, .inr (.inl (r1 g)))), (b3, .inl (cA 2, 39, .inl (r2 g))), (b4, .inl (cA 3, 39, .inl (r3 g))), (b5, .inl (cA 4, 39, .inl (r4 g))), (b6, .inl (cA 5, 39, .inl (r5 g))), (b7, .inl (cA 6, 39, .inr (.inr (.inl (r6 g))))), (b8, .inl (cA 7, 39, .inr (.inr (.inr (.inl (r7 g))))))] s.heap.size) s.heap s.heap [] := va_S.rf
  obtain ⟨A, hAe, hD, hA, hz, hRo, hwk, hnR⟩ := xM_start hb0 hPr hP hD0
  rw [hAe] at hS ⊢
  have hl := lv_entry ([.ref b, .int p1, .int p2, .int p3, .int p4, .ref lk]) (n := 7) (Nat.le_of_ble_eq_true rfl)
  rw [lg_entry_eq]
  generalize (lg_sl ([.ref b, .int p1, .int p2, .int p3, .int p4, .ref lk]) ++ List.replicate (7 - (lg_sl ([.ref b, .int p1, .int p2, .int p3, .int p4, .ref lk])).length) Slot.unset).toArray = ls at hl ⊢
  have hl : lv_has ls 7 [(0, .ref b), (1, .int p1), (2, .int p2), (3, .int p3), (4, .int p4), (5, .ref lk)] := hl
  refine lv_aload hx hb dL_write_0 (lv_at hl 5 rfl) ?_
  refine lv_iconst (v := 0) hx hb dL_write_2 (by decide) ?_
  refine lv_aload_n hx hb dL_write_3 rfl (lv_at hl 0 rfl) ?_
  refine lv_iload_n hx hb dL_write_4 rfl (lv_at hl 1 rfl) ?_
  refine lv_iload_n hx hb dL_write_5 rfl (lv_at hl 2 rfl) ?_
  refine lv_iload_n hx hb dL_write_6 rfl (lv_at hl 3 rfl) ?_
  refine lv_iload hx hb dL_write_7 (lv_at hl 4 rfl) ?_
  refine xm_of (wc := [(b, .inr (5, [.ref ro, .ref gr, .ref br, .int wr, .int ca])), (b1, .inl (cA 0, 39, .inl (r0 g))), (b2, .inl (cA 1, 39, .inr (.inl (r1 g)))), (b3, .inl (cA 2, 39, .inl (r2 g))), (b4, .inl (cA 3, 39, .inl (r3 g))), (b5, .inl (cA 4, 39, .inl (r4 g))), (b6, .inl (cA 5, 39, .inl (r5 g))), (b7, .inl (cA 6, 39, .inr (.inr (.inl (r6 g))))), (b8, .inl (cA 7, 39, .inr (.inr (.inr (.inl (r7 g))))))]) (wo := [(lk, .inl (cA 1, 1, .inr (.inl lf)))]) (va_runV (As := [.int p1, .int p2, .int p3, .int p4]) (rest := [.int 0, .ref lk]) ⟨hx, hb, hml, hown, xTs⟩ (c_write h b gr br wr ca ro b0 b1 b2 b3 b4 b5 b6 b7 b8 n g K p1 p2 p3 p4 _ hKe hK8 ht h0 h1 hi) ⟨xB (n := 4) (k_264 h hb0) (k_1 h hb0) (k_261 h hb0) (by decide) rfl rfl rfl (by decide) (by decide), (k_262 h hb0), (k_263 h hb0)⟩ (xpMV (wr := [(ro, .inr (4, [.ref b0, .ref b1, .ref b2, .ref b3, .ref b4, .ref b5, .ref b6, .ref b7, .ref b8])), (b0, .inl (cA 0, 8, .inl n))]) (wc := [(b, .inr (5, [.ref ro, .ref gr, .ref br, .int wr, .int ca])), (b1, .inl (cA 0, 39, .inl (r0 g))), (b2, .inl (cA 1, 39, .inr (.inl (r1 g)))), (b3, .inl (cA 2, 39, .inl (r2 g))), (b4, .inl (cA 3, 39, .inl (r3 g))), (b5, .inl (cA 4, 39, .inl (r4 g))), (b6, .inl (cA 5, 39, .inl (r5 g))), (b7, .inl (cA 6, 39, .inr (.inr (.inl (r6 g))))), (b8, .inl (cA 7, 39, .inr (.inr (.inr (.inl (r7 g))))))]) hb0 hS hz (va_P.sub (hRo _ _ hS) [0, 1] rfl) (va_P.sub hP [1, 2, 3, 4, 5, 6, 7, 8, 9] rfl) (va_D.sub (xDD (xDl hD0) hD hz hnR) [0, 1, 3, 4, 5, 6, 7, 8, 9, 10, 11] rfl rfl) (va_recv hK hP (ci := 5) (q0 := 1) rfl rfl)) rfl rfl hl.1 rfl (lv_room (Nat.le_of_ble_eq_true rfl)) dL_write_9 ⟨(Nat.le_of_ble_eq_true rfl), (Nat.le_of_ble_eq_true rfl)⟩) hP hD hS hA [1, 2, 3, 4, 5, 6, 7, 8, 9] [0] rfl rfl rfl (by decide) (fun r w1 H locs hΦ hP hD hS => ?_)
  obtain ⟨rfl, rfl⟩ := hΦ
  have hP : va_P (dC, dI) vwCl [(lk, .inl (cA 1, 1, .inr (.inl lf))), (b, .inr (5, [.ref ro, .ref gr, .ref br, .int (wr + 1), .int ca])), (b1, .inl (cA 0, 39, .inl (r0 (gset g K p3.toNatClampNeg p4)))), (b2, .inl (cA 1, 39, .inr (.inl (r1 (gset g K p3.toNatClampNeg p4))))), (b3, .inl (cA 2, 39, .inl (r2 (gset g K p3.toNatClampNeg p4)))), (b4, .inl (cA 3, 39, .inl (r3 (gset g K p3.toNatClampNeg p4)))), (b5, .inl (cA 4, 39, .inl (r4 (gset g K p3.toNatClampNeg p4)))), (b6, .inl (cA 5, 39, .inl (r5 (gset g K p3.toNatClampNeg p4)))), (b7, .inl (cA 6, 39, .inr (.inr (.inl (r6 (gset g K p3.toNatClampNeg p4)))))), (b8, .inl (cA 7, 39, .inr (.inr (.inr (.inl (r7 (gset g K p3.toNatClampNeg p4)))))))] H := hP
  have hD : va_D A [(lk, .inl (cA 1, 1, .inr (.inl lf))), (b, .inr (5, [.ref ro, .ref gr, .ref br, .int (wr + 1), .int ca])), (b1, .inl (cA 0, 39, .inl (r0 (gset g K p3.toNatClampNeg p4)))), (b2, .inl (cA 1, 39, .inr (.inl (r1 (gset g K p3.toNatClampNeg p4))))), (b3, .inl (cA 2, 39, .inl (r2 (gset g K p3.toNatClampNeg p4)))), (b4, .inl (cA 3, 39, .inl (r3 (gset g K p3.toNatClampNeg p4)))), (b5, .inl (cA 4, 39, .inl (r4 (gset g K p3.toNatClampNeg p4)))), (b6, .inl (cA 5, 39, .inl (r5 (gset g K p3.toNatClampNeg p4)))), (b7, .inl (cA 6, 39, .inr (.inr (.inl (r6 (gset g K p3.toNatClampNeg p4)))))), (b8, .inl (cA 7, 39, .inr (.inr (.inr (.inl (r7 (gset g K p3.toNatClampNeg p4)))))))] := hD
  refine lv_i2l hx hb dL_write_12 rfl ?_
  refine va_last hx hb hK hP hD hS 0 1 rfl rfl xin0 dL_write_13 (fun H locs hP hD hS => ?_)
  have hP : va_P (dC, dI) vwCl [(lk, .inl (cA 1, 1, .inr (.inl (vp_updL lf (0 : Int32).toNatClampNeg ((wr + 1).toInt64))))), (b, .inr (5, [.ref ro, .ref gr, .ref br, .int (wr + 1), .int ca])), (b1, .inl (cA 0, 39, .inl (r0 (gset g K p3.toNatClampNeg p4)))), (b2, .inl (cA 1, 39, .inr (.inl (r1 (gset g K p3.toNatClampNeg p4))))), (b3, .inl (cA 2, 39, .inl (r2 (gset g K p3.toNatClampNeg p4)))), (b4, .inl (cA 3, 39, .inl (r3 (gset g K p3.toNatClampNeg p4)))), (b5, .inl (cA 4, 39, .inl (r4 (gset g K p3.toNatClampNeg p4)))), (b6, .inl (cA 5, 39, .inl (r5 (gset g K p3.toNatClampNeg p4)))), (b7, .inl (cA 6, 39, .inr (.inr (.inl (r6 (gset g K p3.toNatClampNeg p4)))))), (b8, .inl (cA 7, 39, .inr (.inr (.inr (.inl (r7 (gset g K p3.toNatClampNeg p4)))))))] H := hP
  have hD : va_D A [(lk, .inl (cA 1, 1, .inr (.inl (vp_updL lf (0 : Int32).toNatClampNeg ((wr + 1).toInt64))))), (b, .inr (5, [.ref ro, .ref gr, .ref br, .int (wr + 1), .int ca])), (b1, .inl (cA 0, 39, .inl (r0 (gset g K p3.toNatClampNeg p4)))), (b2, .inl (cA 1, 39, .inr (.inl (r1 (gset g K p3.toNatClampNeg p4))))), (b3, .inl (cA 2, 39, .inl (r2 (gset g K p3.toNatClampNeg p4)))), (b4, .inl (cA 3, 39, .inl (r3 (gset g K p3.toNatClampNeg p4)))), (b5, .inl (cA 4, 39, .inl (r4 (gset g K p3.toNatClampNeg p4)))), (b6, .inl (cA 5, 39, .inl (r5 (gset g K p3.toNatClampNeg p4)))), (b7, .inl (cA 6, 39, .inr (.inr (.inl (r6 (gset g K p3.toNatClampNeg p4)))))), (b8, .inl (cA 7, 39, .inr (.inr (.inr (.inl (r7 (gset g K p3.toNatClampNeg p4)))))))] := hD
  refine lv_goto (tgt := 25) hx hb dL_write_14 (by decide) ?_
  refine lv_iconst (v := 0) hx hb dL_write_25 (by decide) ?_
  exact W.iret hx hb hr (fun t ht _ => ⟨(some (.int 0)), _, rfl, ⟨rfl, rfl⟩, by rw [ht]; exact hP, hD, hS.F ht⟩) (fun q z => hS.2.2 q z) dL_write_26
set_option maxHeartbeats 4000000 in
set_option maxRecDepth 100000 in
theorem l_t_write_N {l : Launch} {s0 : State} {a0 : Array Value} {dC : Nat → ClassId} {dI : Nat → Nat → Nat} {cA : Nat → ClassId} (h : xC l s0 a0 dC dI cA) (b gr br : Nat) (wr ca : Int32) (ro b0 b1 b2 b3 b4 b5 b6 b7 b8 : Nat) (n : Nat → Int32) (g : Nat → Nat → Int32) (K : Nat) (p1 p2 p3 p4 : Int32) (lk : Nat) (lf : Nat → Int64) (sz : Nat) (hKe : p1 &&& 7 = nI K) (hK8 : K < 8) (ht : p2 = 0) : Met l yL_write [Cond.codeWith yL_write cL_write 7 (some .int) [(0, 14, 17, 13), (0, 14, 21, 15)]] ({ frames := 9, cells := 1, slots := 8, locals := 170 } : Room) (xPM s0 (dC, dI) [.ref b, .int p1, .int p2, .int p3, .int p4, .ref lk] [(b, .inr (5, [.ref ro, .ref gr, .ref br, .int wr, .int ca])), (ro, .inr (4, [.ref b0, .ref b1, .ref b2, .ref b3, .ref b4, .ref b5, .ref b6, .ref b7, .ref b8])), (b0, .inl (cA 0, 8, .inl n))] [(lk, .inl (cA 1, 1, .inr (.inl lf)))] sz) (xQM (dC, dI) (va_A [(lk, .inl (cA 1, 1, .inr (.inl lf)))] sz) (fun r w1 => r = some (.int 1) ∧ w1 = [(lk, .inl (cA 1, 1, .inr (.inl lf)))])) 1 8 (va_A [(lk, .inl (cA 1, 1, .inr (.inl lf)))] sz) := by
  refine va_MetW (cc := cL_write) (maxL := 7) (ret := (some .int)) (hh := [(0, 14, 17, 13), (0, 14, 21, 15)]) (by decide) rfl ?_
  intro p e s m args below meth c s₁ B hml hv
  obtain ⟨rfl, rfl, hb0, hPr, hP, hD0⟩ := hv
  have hx := B.exec
  have hb := B.bytes
  have hr := B.returns
  have hown : s.vm.findClass RL = some m.cls := findClass_of_methodNamed B.named
  have hlocks := B.notSynchronized
  have hK := h.K hb0
  have htab : c.exceptionTable.toList = [⟨0, 14, 17, 13⟩, ⟨0, 14, 21, 15⟩] := xtab (k_260 (args := #[]) h hb0) B.named B.method (Stand.of_body B).code
  have hS : va_S (va_A [(lk, .inl (cA 1, 1, .inr (.inl lf)))] s.heap.size) s.heap s.heap [] := va_S.rf
  obtain ⟨A, hAe, hD, hA, hz, hRo, hwk, hnR⟩ := xM_start hb0 hPr hP hD0
  rw [hAe] at hS ⊢
  have hl := lv_entry ([.ref b, .int p1, .int p2, .int p3, .int p4, .ref lk]) (n := 7) (Nat.le_of_ble_eq_true rfl)
  rw [lg_entry_eq]
  generalize (lg_sl ([.ref b, .int p1, .int p2, .int p3, .int p4, .ref lk]) ++ List.replicate (7 - (lg_sl ([.ref b, .int p1, .int p2, .int p3, .int p4, .ref lk])).length) Slot.unset).toArray = ls at hl ⊢
  have hl : lv_has ls 7 [(0, .ref b), (1, .int p1), (2, .int p2), (3, .int p3), (4, .int p4), (5, .ref lk)] := hl
  refine lv_aload hx hb dL_write_0 (lv_at hl 5 rfl) ?_
  refine lv_iconst (v := 0) hx hb dL_write_2 (by decide) ?_
  refine lv_aload_n hx hb dL_write_3 rfl (lv_at hl 0 rfl) ?_
  refine lv_iload_n hx hb dL_write_4 rfl (lv_at hl 1 rfl) ?_
  refine lv_iload_n hx hb dL_write_5 rfl (lv_at hl 2 rfl) ?_
  refine lv_iload_n hx hb dL_write_6 rfl (lv_at hl 3 rfl) ?_
  refine lv_iload hx hb dL_write_7 (lv_at hl 4 rfl) ?_
  refine xt_callV (As := [.int p1, .int p2, .int p3, .int p4]) (rest := [.int 0, .ref lk]) ⟨hx, hb, hml, hown, xTs⟩ (t_write_N h b gr br wr ca ro b0 b1 b2 b3 b4 b5 b6 b7 b8 n g K p1 p2 p3 p4 hKe hK8 ht) ⟨xB (n := 4) (k_264 h hb0) (k_1 h hb0) (k_261 h hb0) (by decide) rfl rfl rfl (by decide) (by decide), (k_262 h hb0), (k_263 h hb0)⟩ (xpV hb0 hS hz (va_P.sub (hRo _ _ hS) [0, 1, 2] rfl) (va_recv hK (hRo _ _ hS) (ci := 5) (q0 := 0) rfl rfl)) rfl rfl hl.1 rfl (lv_room (Nat.le_of_ble_eq_true rfl)) dL_write_9 ⟨(Nat.le_of_ble_eq_true rfl), (Nat.le_of_ble_eq_true rfl)⟩ (fun q ce H h1 h2 h3 h4 h5 => ?_)
  refine xt_catch hown [] ⟨0, 14, 17, 13⟩ [⟨0, 14, 21, 15⟩] htab xnone rfl (by decide) (k_129 h hb0) (k_143 h hb0) h1 h2 h3 ?_
  have hP := xgrow hP h5
  have hS := xgrowS hS h4 h5
  show W _ _ _ _ _ _ _ _ _ _ _ _ _ _ _ (F0 m 17 ls [.ref q])
  refine lv_astore (lv' := [(6, .ref q), (0, .ref b), (1, .int p1), (2, .int p2), (3, .int p3), (4, .int p4), (5, .ref lk)]) hx hb dL_write_17 hl (by decide) rfl (fun ls hl => ?_)
  refine lv_iconst (v := 1) hx hb dL_write_19 (by decide) ?_
  exact W.iret hx hb hr (fun t ht _ => ⟨(some (.int 1)), _, rfl, ⟨rfl, rfl⟩, by rw [ht]; exact hP, hD, hS.F ht⟩) (fun q z => hS.2.2 q z) dL_write_20
set_option maxHeartbeats 4000000 in
set_option maxRecDepth 100000 in
theorem l_t_write_A {l : Launch} {s0 : State} {a0 : Array Value} {dC : Nat → ClassId} {dI : Nat → Nat → Nat} {cA : Nat → ClassId} (h : xC l s0 a0 dC dI cA) (b gr br : Nat) (wr ca : Int32) (ro b0 b1 b2 b3 b4 b5 b6 b7 b8 : Nat) (n : Nat → Int32) (g : Nat → Nat → Int32) (K : Nat) (p1 p2 p3 p4 : Int32) (lk : Nat) (lf : Nat → Int64) (sz : Nat) (hKe : p1 &&& 7 = nI K) (hK8 : K < 8) (ht : ¬ p2 = 0) (hc : p3 < 0 ∨ ¬ p3 < n K) : Met l yL_write [Cond.codeWith yL_write cL_write 7 (some .int) [(0, 14, 17, 13), (0, 14, 21, 15)]] ({ frames := 9, cells := 1, slots := 8, locals := 170 } : Room) (xPM s0 (dC, dI) [.ref b, .int p1, .int p2, .int p3, .int p4, .ref lk] [(b, .inr (5, [.ref ro, .ref gr, .ref br, .int wr, .int ca])), (ro, .inr (4, [.ref b0, .ref b1, .ref b2, .ref b3, .ref b4, .ref b5, .ref b6, .ref b7, .ref b8])), (b0, .inl (cA 0, 8, .inl n))] [(lk, .inl (cA 1, 1, .inr (.inl lf)))] sz) (xQM (dC, dI) (va_A [(lk, .inl (cA 1, 1, .inr (.inl lf)))] sz) (fun r w1 => r = some (.int 2) ∧ w1 = [(lk, .inl (cA 1, 1, .inr (.inl lf)))])) 1 8 (va_A [(lk, .inl (cA 1, 1, .inr (.inl lf)))] sz) := by
  refine va_MetW (cc := cL_write) (maxL := 7) (ret := (some .int)) (hh := [(0, 14, 17, 13), (0, 14, 21, 15)]) (by decide) rfl ?_
  intro p e s m args below meth c s₁ B hml hv
  obtain ⟨rfl, rfl, hb0, hPr, hP, hD0⟩ := hv
  have hx := B.exec
  have hb := B.bytes
  have hr := B.returns
  have hown : s.vm.findClass RL = some m.cls := findClass_of_methodNamed B.named
  have hlocks := B.notSynchronized
  have hK := h.K hb0
  have htab : c.exceptionTable.toList = [⟨0, 14, 17, 13⟩, ⟨0, 14, 21, 15⟩] := xtab (k_260 (args := #[]) h hb0) B.named B.method (Stand.of_body B).code
  have hS : va_S (va_A [(lk, .inl (cA 1, 1, .inr (.inl lf)))] s.heap.size) s.heap s.heap [] := va_S.rf
  obtain ⟨A, hAe, hD, hA, hz, hRo, hwk, hnR⟩ := xM_start hb0 hPr hP hD0
  rw [hAe] at hS ⊢
  have hl := lv_entry ([.ref b, .int p1, .int p2, .int p3, .int p4, .ref lk]) (n := 7) (Nat.le_of_ble_eq_true rfl)
  rw [lg_entry_eq]
  generalize (lg_sl ([.ref b, .int p1, .int p2, .int p3, .int p4, .ref lk]) ++ List.replicate (7 - (lg_sl ([.ref b, .int p1, .int p2, .int p3, .int p4, .ref lk])).length) Slot.unset).toArray = ls at hl ⊢
  have hl : lv_has ls 7 [(0, .ref b), (1, .int p1), (2, .int p2), (3, .int p3), (4, .int p4), (5, .ref lk)] := hl
  refine lv_aload hx hb dL_write_0 (lv_at hl 5 rfl) ?_
  refine lv_iconst (v := 0) hx hb dL_write_2 (by decide) ?_
  refine lv_aload_n hx hb dL_write_3 rfl (lv_at hl 0 rfl) ?_
  refine lv_iload_n hx hb dL_write_4 rfl (lv_at hl 1 rfl) ?_
  refine lv_iload_n hx hb dL_write_5 rfl (lv_at hl 2 rfl) ?_
  refine lv_iload_n hx hb dL_write_6 rfl (lv_at hl 3 rfl) ?_
  refine lv_iload hx hb dL_write_7 (lv_at hl 4 rfl) ?_
  refine xt_callV (As := [.int p1, .int p2, .int p3, .int p4]) (rest := [.int 0, .ref lk]) ⟨hx, hb, hml, hown, xTs⟩ (t_write_A h b gr br wr ca ro b0 b1 b2 b3 b4 b5 b6 b7 b8 n g K p1 p2 p3 p4 hKe hK8 ht hc) ⟨xB (n := 4) (k_264 h hb0) (k_1 h hb0) (k_261 h hb0) (by decide) rfl rfl rfl (by decide) (by decide), (k_262 h hb0), (k_263 h hb0)⟩ (xpV hb0 hS hz (va_P.sub (hRo _ _ hS) [0, 1, 2] rfl) (va_recv hK (hRo _ _ hS) (ci := 5) (q0 := 0) rfl rfl)) rfl rfl hl.1 rfl (lv_room (Nat.le_of_ble_eq_true rfl)) dL_write_9 ⟨(Nat.le_of_ble_eq_true rfl), (Nat.le_of_ble_eq_true rfl)⟩ (fun q ce H h1 h2 h3 h4 h5 => ?_)
  refine xt_catch hown [⟨0, 14, 17, 13⟩] ⟨0, 14, 21, 15⟩ [] htab (fun z hz2 => by rw [List.mem_singleton] at hz2; rw [hz2]; exact ⟨rfl, by decide, _, k_129 h hb0, nc_IN h hb0⟩) rfl (by decide) (k_130 h hb0) (k_235 h hb0) h1 h2 h3 ?_
  have hP := xgrow hP h5
  have hS := xgrowS hS h4 h5
  show W _ _ _ _ _ _ _ _ _ _ _ _ _ _ _ (F0 m 21 ls [.ref q])
  refine lv_astore (lv' := [(6, .ref q), (0, .ref b), (1, .int p1), (2, .int p2), (3, .int p3), (4, .int p4), (5, .ref lk)]) hx hb dL_write_21 hl (by decide) rfl (fun ls hl => ?_)
  refine lv_iconst (v := 2) hx hb dL_write_23 (by decide) ?_
  exact W.iret hx hb hr (fun t ht _ => ⟨(some (.int 2)), _, rfl, ⟨rfl, rfl⟩, by rw [ht]; exact hP, hD, hS.F ht⟩) (fun q z => hS.2.2 q z) dL_write_24
set_option maxHeartbeats 4000000 in
set_option maxRecDepth 100000 in
theorem l_c_length {l : Launch} {s0 : State} {a0 : Array Value} {dC : Nat → ClassId} {dI : Nat → Nat → Nat} {cA : Nat → ClassId} (h : xC l s0 a0 dC dI cA) (b gr br : Nat) (wr ca : Int32) (ro b0 b1 b2 b3 b4 b5 b6 b7 b8 : Nat) (n : Nat → Int32) (g : Nat → Nat → Int32) (K : Nat) (p1 p2 : Int32) (lk : Nat) (lf : Nat → Int64) (sz : Nat) (hKe : p1 &&& 7 = nI K) (hK8 : K < 8) (ht : ¬ p2 = 0) : Met l yL_length [Cond.codeWith yL_length cL_length 5 (some .int) [(0, 10, 13, 13)]] ({ frames := 2, cells := 0, slots := 0, locals := 70 } : Room) (xPM s0 (dC, dI) [.ref b, .int p1, .int p2, .ref lk] [(b, .inr (5, [.ref ro, .ref gr, .ref br, .int wr, .int ca])), (ro, .inr (4, [.ref b0, .ref b1, .ref b2, .ref b3, .ref b4, .ref b5, .ref b6, .ref b7, .ref b8])), (b0, .inl (cA 0, 8, .inl n))] [(lk, .inl (cA 1, 1, .inr (.inl lf)))] sz) (xQM (dC, dI) (va_A [(lk, .inl (cA 1, 1, .inr (.inl lf)))] sz) (fun r w1 => r = some (.int 0) ∧ w1 = [(lk, .inl (cA 1, 1, .inr (.inl (vp_updL lf 0 ((n K).toInt64)))))])) 0 0 (va_A [(lk, .inl (cA 1, 1, .inr (.inl lf)))] sz) := by
  refine va_MetW (cc := cL_length) (maxL := 5) (ret := (some .int)) (hh := [(0, 10, 13, 13)]) (by decide) rfl ?_
  intro p e s m args below meth c s₁ B hml hv
  obtain ⟨rfl, rfl, hb0, hPr, hP, hD0⟩ := hv
  have hx := B.exec
  have hb := B.bytes
  have hr := B.returns
  have hown : s.vm.findClass RL = some m.cls := findClass_of_methodNamed B.named
  have hlocks := B.notSynchronized
  have hK := h.K hb0
  have htab : c.exceptionTable.toList = [⟨0, 10, 13, 13⟩] := xtab (k_271 (args := #[]) h hb0) B.named B.method (Stand.of_body B).code
  have hS : va_S (va_A [(lk, .inl (cA 1, 1, .inr (.inl lf)))] s.heap.size) s.heap s.heap [] := va_S.rf
  obtain ⟨A, hAe, hD, hA, hz, hRo, hwk, hnR⟩ := xM_start hb0 hPr hP hD0
  rw [hAe] at hS ⊢
  have hl := lv_entry ([.ref b, .int p1, .int p2, .ref lk]) (n := 5) (Nat.le_of_ble_eq_true rfl)
  rw [lg_entry_eq]
  generalize (lg_sl ([.ref b, .int p1, .int p2, .ref lk]) ++ List.replicate (5 - (lg_sl ([.ref b, .int p1, .int p2, .ref lk])).length) Slot.unset).toArray = ls at hl ⊢
  have hl : lv_has ls 5 [(0, .ref b), (1, .int p1), (2, .int p2), (3, .ref lk)] := hl
  refine lv_aload_n hx hb dL_length_0 rfl (lv_at hl 3 rfl) ?_
  refine lv_iconst (v := 0) hx hb dL_length_1 (by decide) ?_
  refine lv_aload_n hx hb dL_length_2 rfl (lv_at hl 0 rfl) ?_
  refine lv_iload_n hx hb dL_length_3 rfl (lv_at hl 1 rfl) ?_
  refine lv_iload_n hx hb dL_length_4 rfl (lv_at hl 2 rfl) ?_
  refine xr_1 (va_runV (As := [.int p1, .int p2]) (rest := [.int 0, .ref lk]) ⟨hx, hb, hml, hown, xTs⟩ (c_length h b gr br wr ca ro b0 b1 b2 b3 b4 b5 b6 b7 b8 n g K p1 p2 hKe hK8 ht) ⟨xB (n := 2) (k_275 h hb0) (k_1 h hb0) (k_272 h hb0) (by decide) rfl rfl rfl (by decide) (by decide), (k_273 h hb0), (k_274 h hb0)⟩ (xpV hb0 hS hz (va_P.sub (hRo _ _ hS) [0, 1, 2] rfl) (va_recv hK (hRo _ _ hS) (ci := 5) (q0 := 0) rfl rfl)) rfl rfl hl.1 rfl (lv_room (Nat.le_of_ble_eq_true rfl)) dL_length_5 ⟨(Nat.le_of_ble_eq_true rfl), (Nat.le_of_ble_eq_true rfl)⟩) ?_
  refine lv_i2l hx hb dL_length_8 rfl ?_
  refine va_last hx hb hK hP hD hS 0 1 rfl rfl xin0 dL_length_9 (fun H locs hP hD hS => ?_)
  have hP : va_P (dC, dI) vwCl [(lk, .inl (cA 1, 1, .inr (.inl (vp_updL lf (0 : Int32).toNatClampNeg ((n K).toInt64)))))] H := hP
  have hD : va_D A [(lk, .inl (cA 1, 1, .inr (.inl (vp_updL lf (0 : Int32).toNatClampNeg ((n K).toInt64)))))] := hD
  refine lv_goto (tgt := 17) hx hb dL_length_10 (by decide) ?_
  refine lv_iconst (v := 0) hx hb dL_length_17 (by decide) ?_
  exact W.iret hx hb hr (fun t ht _ => ⟨(some (.int 0)), _, rfl, ⟨rfl, rfl⟩, by rw [ht]; exact hP, hD, hS.F ht⟩) (fun q z => hS.2.2 q z) dL_length_18
set_option maxHeartbeats 4000000 in
set_option maxRecDepth 100000 in
theorem l_t_length_N {l : Launch} {s0 : State} {a0 : Array Value} {dC : Nat → ClassId} {dI : Nat → Nat → Nat} {cA : Nat → ClassId} (h : xC l s0 a0 dC dI cA) (b gr br : Nat) (wr ca : Int32) (ro b0 b1 b2 b3 b4 b5 b6 b7 b8 : Nat) (n : Nat → Int32) (g : Nat → Nat → Int32) (K : Nat) (p1 p2 : Int32) (lk : Nat) (lf : Nat → Int64) (sz : Nat) (ht : p2 = 0) : Met l yL_length [Cond.codeWith yL_length cL_length 5 (some .int) [(0, 10, 13, 13)]] ({ frames := 9, cells := 1, slots := 8, locals := 170 } : Room) (xPM s0 (dC, dI) [.ref b, .int p1, .int p2, .ref lk] [(b, .inr (5, [.ref ro, .ref gr, .ref br, .int wr, .int ca])), (ro, .inr (4, [.ref b0, .ref b1, .ref b2, .ref b3, .ref b4, .ref b5, .ref b6, .ref b7, .ref b8])), (b0, .inl (cA 0, 8, .inl n))] [(lk, .inl (cA 1, 1, .inr (.inl lf)))] sz) (xQM (dC, dI) (va_A [(lk, .inl (cA 1, 1, .inr (.inl lf)))] sz) (fun r w1 => r = some (.int 1) ∧ w1 = [(lk, .inl (cA 1, 1, .inr (.inl lf)))])) 1 8 (va_A [(lk, .inl (cA 1, 1, .inr (.inl lf)))] sz) := by
  refine va_MetW (cc := cL_length) (maxL := 5) (ret := (some .int)) (hh := [(0, 10, 13, 13)]) (by decide) rfl ?_
  intro p e s m args below meth c s₁ B hml hv
  obtain ⟨rfl, rfl, hb0, hPr, hP, hD0⟩ := hv
  have hx := B.exec
  have hb := B.bytes
  have hr := B.returns
  have hown : s.vm.findClass RL = some m.cls := findClass_of_methodNamed B.named
  have hlocks := B.notSynchronized
  have hK := h.K hb0
  have htab : c.exceptionTable.toList = [⟨0, 10, 13, 13⟩] := xtab (k_271 (args := #[]) h hb0) B.named B.method (Stand.of_body B).code
  have hS : va_S (va_A [(lk, .inl (cA 1, 1, .inr (.inl lf)))] s.heap.size) s.heap s.heap [] := va_S.rf
  obtain ⟨A, hAe, hD, hA, hz, hRo, hwk, hnR⟩ := xM_start hb0 hPr hP hD0
  rw [hAe] at hS ⊢
  have hl := lv_entry ([.ref b, .int p1, .int p2, .ref lk]) (n := 5) (Nat.le_of_ble_eq_true rfl)
  rw [lg_entry_eq]
  generalize (lg_sl ([.ref b, .int p1, .int p2, .ref lk]) ++ List.replicate (5 - (lg_sl ([.ref b, .int p1, .int p2, .ref lk])).length) Slot.unset).toArray = ls at hl ⊢
  have hl : lv_has ls 5 [(0, .ref b), (1, .int p1), (2, .int p2), (3, .ref lk)] := hl
  refine lv_aload_n hx hb dL_length_0 rfl (lv_at hl 3 rfl) ?_
  refine lv_iconst (v := 0) hx hb dL_length_1 (by decide) ?_
  refine lv_aload_n hx hb dL_length_2 rfl (lv_at hl 0 rfl) ?_
  refine lv_iload_n hx hb dL_length_3 rfl (lv_at hl 1 rfl) ?_
  refine lv_iload_n hx hb dL_length_4 rfl (lv_at hl 2 rfl) ?_
  refine xt_callV (As := [.int p1, .int p2]) (rest := [.int 0, .ref lk]) ⟨hx, hb, hml, hown, xTs⟩ (t_length_N h b gr br wr ca ro b0 b1 b2 b3 b4 b5 b6 b7 b8 n g K p1 p2 ht) ⟨xB (n := 2) (k_275 h hb0) (k_1 h hb0) (k_272 h hb0) (by decide) rfl rfl rfl (by decide) (by decide), (k_273 h hb0), (k_274 h hb0)⟩ (xpV hb0 hS hz (va_P.sub (hRo _ _ hS) [0, 1, 2] rfl) (va_recv hK (hRo _ _ hS) (ci := 5) (q0 := 0) rfl rfl)) rfl rfl hl.1 rfl (lv_room (Nat.le_of_ble_eq_true rfl)) dL_length_5 ⟨(Nat.le_of_ble_eq_true rfl), (Nat.le_of_ble_eq_true rfl)⟩ (fun q ce H h1 h2 h3 h4 h5 => ?_)
  refine xt_catch hown [] ⟨0, 10, 13, 13⟩ [] htab xnone rfl (by decide) (k_129 h hb0) (k_143 h hb0) h1 h2 h3 ?_
  have hP := xgrow hP h5
  have hS := xgrowS hS h4 h5
  show W _ _ _ _ _ _ _ _ _ _ _ _ _ _ _ (F0 m 13 ls [.ref q])
  refine lv_astore (lv' := [(4, .ref q), (0, .ref b), (1, .int p1), (2, .int p2), (3, .ref lk)]) hx hb dL_length_13 hl (by decide) rfl (fun ls hl => ?_)
  refine lv_iconst (v := 1) hx hb dL_length_15 (by decide) ?_
  exact W.iret hx hb hr (fun t ht _ => ⟨(some (.int 1)), _, rfl, ⟨rfl, rfl⟩, by rw [ht]; exact hP, hD, hS.F ht⟩) (fun q z => hS.2.2 q z) dL_length_16
set_option maxHeartbeats 4000000 in
set_option maxRecDepth 100000 in
theorem l_c_make {l : Launch} {s0 : State} {a0 : Array Value} {dC : Nat → ClassId} {dI : Nat → Nat → Nat} {cA : Nat → ClassId} (h : xC l s0 a0 dC dI cA) (b gr br : Nat) (wr ca : Int32) (ro b0 b1 b2 b3 b4 b5 b6 b7 b8 : Nat) (n : Nat → Int32) (g : Nat → Nat → Int32) (K N : Nat) (p1 p2 : Int32) (lk : Nat) (lf : Nat → Int64) (sz : Nat) (hKe : p1 &&& 7 = nI K) (hK8 : K < 8) (hN : p2 - p2 / 40 * 40 = nI N) (hN4 : N < 40) : Met l yL_make [Cond.codeWith yL_make cL_make 5 (some .int) [(0, 10, 13, 29)]] ({ frames := 3, cells := 0, slots := 0, locals := 110 } : Room) (xPM s0 (dC, dI) [.ref b, .int p1, .int p2, .ref lk] [(b, .inr (5, [.ref ro, .ref gr, .ref br, .int wr, .int ca])), (ro, .inr (4, [.ref b0, .ref b1, .ref b2, .ref b3, .ref b4, .ref b5, .ref b6, .ref b7, .ref b8]))] [(lk, .inl (cA 1, 1, .inr (.inl lf))), (b0, .inl (cA 0, 8, .inl n)), (b1, .inl (cA 0, 39, .inl (r0 g))), (b2, .inl (cA 1, 39, .inr (.inl (r1 g)))), (b3, .inl (cA 2, 39, .inl (r2 g))), (b4, .inl (cA 3, 39, .inl (r3 g))), (b5, .inl (cA 4, 39, .inl (r4 g))), (b6, .inl (cA 5, 39, .inl (r5 g))), (b7, .inl (cA 6, 39, .inr (.inr (.inl (r6 g))))), (b8, .inl (cA 7, 39, .inr (.inr (.inr (.inl (r7 g))))))] sz) (xQM (dC, dI) (va_A [(lk, .inl (cA 1, 1, .inr (.inl lf))), (b0, .inl (cA 0, 8, .inl n)), (b1, .inl (cA 0, 39, .inl (r0 g))), (b2, .inl (cA 1, 39, .inr (.inl (r1 g)))), (b3, .inl (cA 2, 39, .inl (r2 g))), (b4, .inl (cA 3, 39, .inl (r3 g))), (b5, .inl (cA 4, 39, .inl (r4 g))), (b6, .inl (cA 5, 39, .inl (r5 g))), (b7, .inl (cA 6, 39, .inr (.inr (.inl (r6 g))))), (b8, .inl (cA 7, 39, .inr (.inr (.inr (.inl (r7 g))))))] sz) (fun r w1 => r = some (.int 0) ∧ w1 = [(lk, .inl (cA 1, 1, .inr (.inl (vp_updL lf 0 ((nI N).toInt64))))), (b0, .inl (cA 0, 8, .inl (upd n K (nI N)))), (b1, .inl (cA 0, 39, .inl (r0 (gz g K N)))), (b2, .inl (cA 1, 39, .inr (.inl (r1 (gz g K N))))), (b3, .inl (cA 2, 39, .inl (r2 (gz g K N)))), (b4, .inl (cA 3, 39, .inl (r3 (gz g K N)))), (b5, .inl (cA 4, 39, .inl (r4 (gz g K N)))), (b6, .inl (cA 5, 39, .inl (r5 (gz g K N)))), (b7, .inl (cA 6, 39, .inr (.inr (.inl (r6 (gz g K N)))))), (b8, .inl (cA 7, 39, .inr (.inr (.inr (.inl (r7 (gz g K N)))))))])) 0 0 (va_A [(lk, .inl (cA 1, 1, .inr (.inl lf))), (b0, .inl (cA 0, 8, .inl n)), (b1, .inl (cA 0, 39, .inl (r0 g))), (b2, .inl (cA 1, 39, .inr (.inl (r1 g)))), (b3, .inl (cA 2, 39, .inl (r2 g))), (b4, .inl (cA 3, 39, .inl (r3 g))), (b5, .inl (cA 4, 39, .inl (r4 g))), (b6, .inl (cA 5, 39, .inl (r5 g))), (b7, .inl (cA 6, 39, .inr (.inr (.inl (r6 g))))), (b8, .inl (cA 7, 39, .inr (.inr (.inr (.inl (r7 g))))))] sz) := by
  refine va_MetW (cc := cL_make) (maxL := 5) (ret := (some .int)) (hh := [(0, 10, 13, 29)]) (by decide) rfl ?_
  intro p e s m args below meth c s₁ B hml hv
  obtain ⟨rfl, rfl, hb0, hPr, hP, hD0⟩ := hv
  have hx := B.exec
  have hb := B.bytes
  have hr := B.returns
  have hown : s.vm.findClass RL = some m.cls := findClass_of_methodNamed B.named
  have hlocks := B.notSynchronized
  have hK := h.K hb0
  have htab : c.exceptionTable.toList = [⟨0, 10, 13, 29⟩] := xtab (k_278 (args := #[]) h hb0) B.named B.method (Stand.of_body B).code
  have hS : va_S (va_A [(lk, .inl (cA 1, 1, .inr (.inl lf))), (b0, .inl (cA 0, 8, .inl n)), (b1, .inl (cA 0, 39, .inl (r0 g))), (b2, .inl (cA 1, 39, .inr (.inl (r1 g)))), (b3, .inl (cA 2, 39, .inl (r2 g))), (b4, .inl (cA 3, 39, .inl (r3 g))), (b5, .inl (cA 4, 39, .inl (r4 g))), (b6, .inl (cA 5, 39, .inl (r5 g))), (b7, .inl (cA 6, 39, .inr (.inr (.inl (r6 g))))), (b8, .inl (cA 7, 39, .inr (.inr (.inr (.inl (r7 g))))))] s.heap.size) s.heap s.heap [] := va_S.rf
  obtain ⟨A, hAe, hD, hA, hz, hRo, hwk, hnR⟩ := xM_start hb0 hPr hP hD0
  rw [hAe] at hS ⊢
  have hl := lv_entry ([.ref b, .int p1, .int p2, .ref lk]) (n := 5) (Nat.le_of_ble_eq_true rfl)
  rw [lg_entry_eq]
  generalize (lg_sl ([.ref b, .int p1, .int p2, .ref lk]) ++ List.replicate (5 - (lg_sl ([.ref b, .int p1, .int p2, .ref lk])).length) Slot.unset).toArray = ls at hl ⊢
  have hl : lv_has ls 5 [(0, .ref b), (1, .int p1), (2, .int p2), (3, .ref lk)] := hl
  refine lv_aload_n hx hb dL_make_0 rfl (lv_at hl 3 rfl) ?_
  refine lv_iconst (v := 0) hx hb dL_make_1 (by decide) ?_
  refine lv_aload_n hx hb dL_make_2 rfl (lv_at hl 0 rfl) ?_
  refine lv_iload_n hx hb dL_make_3 rfl (lv_at hl 1 rfl) ?_
  refine lv_iload_n hx hb dL_make_4 rfl (lv_at hl 2 rfl) ?_
  refine xm_of (wc := [(b0, .inl (cA 0, 8, .inl n)), (b1, .inl (cA 0, 39, .inl (r0 g))), (b2, .inl (cA 1, 39, .inr (.inl (r1 g)))), (b3, .inl (cA 2, 39, .inl (r2 g))), (b4, .inl (cA 3, 39, .inl (r3 g))), (b5, .inl (cA 4, 39, .inl (r4 g))), (b6, .inl (cA 5, 39, .inl (r5 g))), (b7, .inl (cA 6, 39, .inr (.inr (.inl (r6 g))))), (b8, .inl (cA 7, 39, .inr (.inr (.inr (.inl (r7 g))))))]) (wo := [(lk, .inl (cA 1, 1, .inr (.inl lf)))]) (va_runV (As := [.int p1, .int p2]) (rest := [.int 0, .ref lk]) ⟨hx, hb, hml, hown, xTs⟩ (c_make h b gr br wr ca ro b0 b1 b2 b3 b4 b5 b6 b7 b8 n g K N p1 p2 _ hKe hK8 hN hN4) ⟨xB (n := 2) (k_283 h hb0) (k_1 h hb0) (k_280 h hb0) (by decide) rfl rfl rfl (by decide) (by decide), (k_281 h hb0), (k_282 h hb0)⟩ (xpMV (wr := [(b, .inr (5, [.ref ro, .ref gr, .ref br, .int wr, .int ca])), (ro, .inr (4, [.ref b0, .ref b1, .ref b2, .ref b3, .ref b4, .ref b5, .ref b6, .ref b7, .ref b8]))]) (wc := [(b0, .inl (cA 0, 8, .inl n)), (b1, .inl (cA 0, 39, .inl (r0 g))), (b2, .inl (cA 1, 39, .inr (.inl (r1 g)))), (b3, .inl (cA 2, 39, .inl (r2 g))), (b4, .inl (cA 3, 39, .inl (r3 g))), (b5, .inl (cA 4, 39, .inl (r4 g))), (b6, .inl (cA 5, 39, .inl (r5 g))), (b7, .inl (cA 6, 39, .inr (.inr (.inl (r6 g))))), (b8, .inl (cA 7, 39, .inr (.inr (.inr (.inl (r7 g))))))]) hb0 hS hz (va_P.sub (hRo _ _ hS) [0, 1] rfl) (va_P.sub hP [1, 2, 3, 4, 5, 6, 7, 8, 9] rfl) (va_D.sub (xDD (xDl hD0) hD hz hnR) [0, 1, 3, 4, 5, 6, 7, 8, 9, 10, 11] rfl rfl) (va_recv hK (hRo _ _ hS) (ci := 5) (q0 := 0) rfl rfl)) rfl rfl hl.1 rfl (lv_room (Nat.le_of_ble_eq_true rfl)) dL_make_5 ⟨(Nat.le_of_ble_eq_true rfl), (Nat.le_of_ble_eq_true rfl)⟩) hP hD hS hA [1, 2, 3, 4, 5, 6, 7, 8, 9] [0] rfl rfl rfl (by decide) (fun r w1 H locs hΦ hP hD hS => ?_)
  obtain ⟨rfl, rfl⟩ := hΦ
  have hP : va_P (dC, dI) vwCl [(lk, .inl (cA 1, 1, .inr (.inl lf))), (b0, .inl (cA 0, 8, .inl (upd n K (nI N)))), (b1, .inl (cA 0, 39, .inl (r0 (gz g K N)))), (b2, .inl (cA 1, 39, .inr (.inl (r1 (gz g K N))))), (b3, .inl (cA 2, 39, .inl (r2 (gz g K N)))), (b4, .inl (cA 3, 39, .inl (r3 (gz g K N)))), (b5, .inl (cA 4, 39, .inl (r4 (gz g K N)))), (b6, .inl (cA 5, 39, .inl (r5 (gz g K N)))), (b7, .inl (cA 6, 39, .inr (.inr (.inl (r6 (gz g K N)))))), (b8, .inl (cA 7, 39, .inr (.inr (.inr (.inl (r7 (gz g K N)))))))] H := hP
  have hD : va_D A [(lk, .inl (cA 1, 1, .inr (.inl lf))), (b0, .inl (cA 0, 8, .inl (upd n K (nI N)))), (b1, .inl (cA 0, 39, .inl (r0 (gz g K N)))), (b2, .inl (cA 1, 39, .inr (.inl (r1 (gz g K N))))), (b3, .inl (cA 2, 39, .inl (r2 (gz g K N)))), (b4, .inl (cA 3, 39, .inl (r3 (gz g K N)))), (b5, .inl (cA 4, 39, .inl (r4 (gz g K N)))), (b6, .inl (cA 5, 39, .inl (r5 (gz g K N)))), (b7, .inl (cA 6, 39, .inr (.inr (.inl (r6 (gz g K N)))))), (b8, .inl (cA 7, 39, .inr (.inr (.inr (.inl (r7 (gz g K N)))))))] := hD
  refine lv_i2l hx hb dL_make_8 rfl ?_
  refine va_last hx hb hK hP hD hS 0 1 rfl rfl xin0 dL_make_9 (fun H locs hP hD hS => ?_)
  have hP : va_P (dC, dI) vwCl [(lk, .inl (cA 1, 1, .inr (.inl (vp_updL lf (0 : Int32).toNatClampNeg ((nI N).toInt64))))), (b0, .inl (cA 0, 8, .inl (upd n K (nI N)))), (b1, .inl (cA 0, 39, .inl (r0 (gz g K N)))), (b2, .inl (cA 1, 39, .inr (.inl (r1 (gz g K N))))), (b3, .inl (cA 2, 39, .inl (r2 (gz g K N)))), (b4, .inl (cA 3, 39, .inl (r3 (gz g K N)))), (b5, .inl (cA 4, 39, .inl (r4 (gz g K N)))), (b6, .inl (cA 5, 39, .inl (r5 (gz g K N)))), (b7, .inl (cA 6, 39, .inr (.inr (.inl (r6 (gz g K N)))))), (b8, .inl (cA 7, 39, .inr (.inr (.inr (.inl (r7 (gz g K N)))))))] H := hP
  have hD : va_D A [(lk, .inl (cA 1, 1, .inr (.inl (vp_updL lf (0 : Int32).toNatClampNeg ((nI N).toInt64))))), (b0, .inl (cA 0, 8, .inl (upd n K (nI N)))), (b1, .inl (cA 0, 39, .inl (r0 (gz g K N)))), (b2, .inl (cA 1, 39, .inr (.inl (r1 (gz g K N))))), (b3, .inl (cA 2, 39, .inl (r2 (gz g K N)))), (b4, .inl (cA 3, 39, .inl (r3 (gz g K N)))), (b5, .inl (cA 4, 39, .inl (r4 (gz g K N)))), (b6, .inl (cA 5, 39, .inl (r5 (gz g K N)))), (b7, .inl (cA 6, 39, .inr (.inr (.inl (r6 (gz g K N)))))), (b8, .inl (cA 7, 39, .inr (.inr (.inr (.inl (r7 (gz g K N)))))))] := hD
  refine lv_goto (tgt := 17) hx hb dL_make_10 (by decide) ?_
  refine lv_iconst (v := 0) hx hb dL_make_17 (by decide) ?_
  exact W.iret hx hb hr (fun t ht _ => ⟨(some (.int 0)), _, rfl, ⟨rfl, rfl⟩, by rw [ht]; exact hP, hD, hS.F ht⟩) (fun q z => hS.2.2 q z) dL_make_18
set_option maxHeartbeats 4000000 in
set_option maxRecDepth 100000 in
theorem l_t_make_S {l : Launch} {s0 : State} {a0 : Array Value} {dC : Nat → ClassId} {dI : Nat → Nat → Nat} {cA : Nat → ClassId} (h : xC l s0 a0 dC dI cA) (b gr br : Nat) (wr ca : Int32) (ro b0 b1 b2 b3 b4 b5 b6 b7 b8 : Nat) (n : Nat → Int32) (g : Nat → Nat → Int32) (K N : Nat) (p1 p2 : Int32) (lk : Nat) (lf : Nat → Int64) (sz : Nat) (hc : p2 - p2 / 40 * 40 < 0) : Met l yL_make [Cond.codeWith yL_make cL_make 5 (some .int) [(0, 10, 13, 29)]] ({ frames := 9, cells := 1, slots := 8, locals := 170 } : Room) (xPM s0 (dC, dI) [.ref b, .int p1, .int p2, .ref lk] [(b, .inr (5, [.ref ro, .ref gr, .ref br, .int wr, .int ca]))] [(lk, .inl (cA 1, 1, .inr (.inl lf)))] sz) (xQM (dC, dI) (va_A [(lk, .inl (cA 1, 1, .inr (.inl lf)))] sz) (fun r w1 => r = some (.int 1) ∧ w1 = [(lk, .inl (cA 1, 1, .inr (.inl lf)))])) 1 8 (va_A [(lk, .inl (cA 1, 1, .inr (.inl lf)))] sz) := by
  refine va_MetW (cc := cL_make) (maxL := 5) (ret := (some .int)) (hh := [(0, 10, 13, 29)]) (by decide) rfl ?_
  intro p e s m args below meth c s₁ B hml hv
  obtain ⟨rfl, rfl, hb0, hPr, hP, hD0⟩ := hv
  have hx := B.exec
  have hb := B.bytes
  have hr := B.returns
  have hown : s.vm.findClass RL = some m.cls := findClass_of_methodNamed B.named
  have hlocks := B.notSynchronized
  have hK := h.K hb0
  have htab : c.exceptionTable.toList = [⟨0, 10, 13, 29⟩] := xtab (k_278 (args := #[]) h hb0) B.named B.method (Stand.of_body B).code
  have hS : va_S (va_A [(lk, .inl (cA 1, 1, .inr (.inl lf)))] s.heap.size) s.heap s.heap [] := va_S.rf
  obtain ⟨A, hAe, hD, hA, hz, hRo, hwk, hnR⟩ := xM_start hb0 hPr hP hD0
  rw [hAe] at hS ⊢
  have hl := lv_entry ([.ref b, .int p1, .int p2, .ref lk]) (n := 5) (Nat.le_of_ble_eq_true rfl)
  rw [lg_entry_eq]
  generalize (lg_sl ([.ref b, .int p1, .int p2, .ref lk]) ++ List.replicate (5 - (lg_sl ([.ref b, .int p1, .int p2, .ref lk])).length) Slot.unset).toArray = ls at hl ⊢
  have hl : lv_has ls 5 [(0, .ref b), (1, .int p1), (2, .int p2), (3, .ref lk)] := hl
  refine lv_aload_n hx hb dL_make_0 rfl (lv_at hl 3 rfl) ?_
  refine lv_iconst (v := 0) hx hb dL_make_1 (by decide) ?_
  refine lv_aload_n hx hb dL_make_2 rfl (lv_at hl 0 rfl) ?_
  refine lv_iload_n hx hb dL_make_3 rfl (lv_at hl 1 rfl) ?_
  refine lv_iload_n hx hb dL_make_4 rfl (lv_at hl 2 rfl) ?_
  refine xt_callV (As := [.int p1, .int p2]) (rest := [.int 0, .ref lk]) ⟨hx, hb, hml, hown, xTs⟩ (t_make_S h b gr br wr ca ro b0 b1 b2 b3 b4 b5 b6 b7 b8 n g K N p1 p2 hc) ⟨xB (n := 2) (k_283 h hb0) (k_1 h hb0) (k_280 h hb0) (by decide) rfl rfl rfl (by decide) (by decide), (k_281 h hb0), (k_282 h hb0)⟩ (xpV hb0 hS hz (va_P.sub (hRo _ _ hS) [0] rfl) (va_recv hK (hRo _ _ hS) (ci := 5) (q0 := 0) rfl rfl)) rfl rfl hl.1 rfl (lv_room (Nat.le_of_ble_eq_true rfl)) dL_make_5 ⟨(Nat.le_of_ble_eq_true rfl), (Nat.le_of_ble_eq_true rfl)⟩ (fun q ce H h1 h2 h3 h4 h5 => ?_)
  refine xt_catch hown [] ⟨0, 10, 13, 29⟩ [] htab xnone rfl (by decide) (k_279 h hb0) (k_289 h hb0) h1 h2 h3 ?_
  have hP := xgrow hP h5
  have hS := xgrowS hS h4 h5
  show W _ _ _ _ _ _ _ _ _ _ _ _ _ _ _ (F0 m 13 ls [.ref q])
  refine lv_astore (lv' := [(4, .ref q), (0, .ref b), (1, .int p1), (2, .int p2), (3, .ref lk)]) hx hb dL_make_13 hl (by decide) rfl (fun ls hl => ?_)
  refine lv_iconst (v := 1) hx hb dL_make_15 (by decide) ?_
  exact W.iret hx hb hr (fun t ht _ => ⟨(some (.int 1)), _, rfl, ⟨rfl, rfl⟩, by rw [ht]; exact hP, hD, hS.F ht⟩) (fun q z => hS.2.2 q z) dL_make_16
set_option maxHeartbeats 4000000 in
set_option maxRecDepth 100000 in
theorem l_c_grid {l : Launch} {s0 : State} {a0 : Array Value} {dC : Nat → ClassId} {dI : Nat → Nat → Nat} {cA : Nat → ClassId} (h : xC l s0 a0 dC dI cA) (b gr br : Nat) (wr ca : Int32) (ro gc : Nat) (z1 z2 z3 p1 p2 : Int32) (lk : Nat) (lf : Nat → Int64) (sz : Nat) (hc : ¬ p1 - p1 / 9 * 9 < 0) (hd : ¬ p2 - p2 / 9 * 9 < 0) : Met l yL_grid [Cond.codeWith yL_grid cL_grid 5 (some .int) [(0, 10, 13, 29)]] ({ frames := 2, cells := 0, slots := 0, locals := 70 } : Room) (xPM s0 (dC, dI) [.ref b, .int p1, .int p2, .ref lk] [(b, .inr (5, [.ref ro, .ref gr, .ref br, .int wr, .int ca]))] [(lk, .inl (cA 1, 1, .inr (.inl lf))), (gr, .inr (3, [.ref gc, .int z1, .int z2, .int z3]))] sz) (xQM (dC, dI) (va_A [(lk, .inl (cA 1, 1, .inr (.inl lf))), (gr, .inr (3, [.ref gc, .int z1, .int z2, .int z3]))] sz) (fun r w1 => r = some (.int 0) ∧ w1 = [(lk, .inl (cA 1, 1, .inr (.inl (vp_updL lf 0 (((p1 - p1 / 9 * 9) * (p2 - p2 / 9 * 9)).toInt64))))), (gr, .inr (3, [.ref gc, .int 1, .int (p1 - p1 / 9 * 9), .int (p2 - p2 / 9 * 9)]))])) 0 0 (va_A [(lk, .inl (cA 1, 1, .inr (.inl lf))), (gr, .inr (3, [.ref gc, .int z1, .int z2, .int z3]))] sz) := by
  refine va_MetW (cc := cL_grid) (maxL := 5) (ret := (some .int)) (hh := [(0, 10, 13, 29)]) (by decide) rfl ?_
  intro p e s m args below meth c s₁ B hml hv
  obtain ⟨rfl, rfl, hb0, hPr, hP, hD0⟩ := hv
  have hx := B.exec
  have hb := B.bytes
  have hr := B.returns
  have hown : s.vm.findClass RL = some m.cls := findClass_of_methodNamed B.named
  have hlocks := B.notSynchronized
  have hK := h.K hb0
  have htab : c.exceptionTable.toList = [⟨0, 10, 13, 29⟩] := xtab (k_310 (args := #[]) h hb0) B.named B.method (Stand.of_body B).code
  have hS : va_S (va_A [(lk, .inl (cA 1, 1, .inr (.inl lf))), (gr, .inr (3, [.ref gc, .int z1, .int z2, .int z3]))] s.heap.size) s.heap s.heap [] := va_S.rf
  obtain ⟨A, hAe, hD, hA, hz, hRo, hwk, hnR⟩ := xM_start hb0 hPr hP hD0
  rw [hAe] at hS ⊢
  have hl := lv_entry ([.ref b, .int p1, .int p2, .ref lk]) (n := 5) (Nat.le_of_ble_eq_true rfl)
  rw [lg_entry_eq]
  generalize (lg_sl ([.ref b, .int p1, .int p2, .ref lk]) ++ List.replicate (5 - (lg_sl ([.ref b, .int p1, .int p2, .ref lk])).length) Slot.unset).toArray = ls at hl ⊢
  have hl : lv_has ls 5 [(0, .ref b), (1, .int p1), (2, .int p2), (3, .ref lk)] := hl
  refine lv_aload_n hx hb dL_grid_0 rfl (lv_at hl 3 rfl) ?_
  refine lv_iconst (v := 0) hx hb dL_grid_1 (by decide) ?_
  refine lv_aload_n hx hb dL_grid_2 rfl (lv_at hl 0 rfl) ?_
  refine lv_iload_n hx hb dL_grid_3 rfl (lv_at hl 1 rfl) ?_
  refine lv_iload_n hx hb dL_grid_4 rfl (lv_at hl 2 rfl) ?_
  refine xm_of (wc := [(gr, .inr (3, [.ref gc, .int z1, .int z2, .int z3]))]) (wo := [(lk, .inl (cA 1, 1, .inr (.inl lf)))]) (va_runV (As := [.int p1, .int p2]) (rest := [.int 0, .ref lk]) ⟨hx, hb, hml, hown, xTs⟩ (c_grid h b gr br wr ca ro gc z1 z2 z3 p1 p2 _ hc hd) ⟨xB (n := 2) (k_314 h hb0) (k_1 h hb0) (k_311 h hb0) (by decide) rfl rfl rfl (by decide) (by decide), (k_312 h hb0), (k_313 h hb0)⟩ (xpMV (wr := [(b, .inr (5, [.ref ro, .ref gr, .ref br, .int wr, .int ca]))]) (wc := [(gr, .inr (3, [.ref gc, .int z1, .int z2, .int z3]))]) hb0 hS hz (va_P.sub (hRo _ _ hS) [0] rfl) (va_P.sub hP [1] rfl) (va_D.sub (xDD (xDl hD0) hD hz hnR) [0, 2] rfl rfl) (va_recv hK (hRo _ _ hS) (ci := 5) (q0 := 0) rfl rfl)) rfl rfl hl.1 rfl (lv_room (Nat.le_of_ble_eq_true rfl)) dL_grid_5 ⟨(Nat.le_of_ble_eq_true rfl), (Nat.le_of_ble_eq_true rfl)⟩) hP hD hS hA [1] [0] rfl rfl rfl (by decide) (fun r w1 H locs hΦ hP hD hS => ?_)
  obtain ⟨rfl, rfl⟩ := hΦ
  have hP : va_P (dC, dI) vwCl [(lk, .inl (cA 1, 1, .inr (.inl lf))), (gr, .inr (3, [.ref gc, .int 1, .int (p1 - p1 / 9 * 9), .int (p2 - p2 / 9 * 9)]))] H := hP
  have hD : va_D A [(lk, .inl (cA 1, 1, .inr (.inl lf))), (gr, .inr (3, [.ref gc, .int 1, .int (p1 - p1 / 9 * 9), .int (p2 - p2 / 9 * 9)]))] := hD
  refine lv_i2l hx hb dL_grid_8 rfl ?_
  refine va_last hx hb hK hP hD hS 0 1 rfl rfl xin0 dL_grid_9 (fun H locs hP hD hS => ?_)
  have hP : va_P (dC, dI) vwCl [(lk, .inl (cA 1, 1, .inr (.inl (vp_updL lf (0 : Int32).toNatClampNeg (((p1 - p1 / 9 * 9) * (p2 - p2 / 9 * 9)).toInt64))))), (gr, .inr (3, [.ref gc, .int 1, .int (p1 - p1 / 9 * 9), .int (p2 - p2 / 9 * 9)]))] H := hP
  have hD : va_D A [(lk, .inl (cA 1, 1, .inr (.inl (vp_updL lf (0 : Int32).toNatClampNeg (((p1 - p1 / 9 * 9) * (p2 - p2 / 9 * 9)).toInt64))))), (gr, .inr (3, [.ref gc, .int 1, .int (p1 - p1 / 9 * 9), .int (p2 - p2 / 9 * 9)]))] := hD
  refine lv_goto (tgt := 17) hx hb dL_grid_10 (by decide) ?_
  refine lv_iconst (v := 0) hx hb dL_grid_17 (by decide) ?_
  exact W.iret hx hb hr (fun t ht _ => ⟨(some (.int 0)), _, rfl, ⟨rfl, rfl⟩, by rw [ht]; exact hP, hD, hS.F ht⟩) (fun q z => hS.2.2 q z) dL_grid_18
set_option maxHeartbeats 4000000 in
set_option maxRecDepth 100000 in
theorem l_t_grid_1 {l : Launch} {s0 : State} {a0 : Array Value} {dC : Nat → ClassId} {dI : Nat → Nat → Nat} {cA : Nat → ClassId} (h : xC l s0 a0 dC dI cA) (b gr br : Nat) (wr ca : Int32) (ro gc : Nat) (z1 z2 z3 p1 p2 : Int32) (lk : Nat) (lf : Nat → Int64) (sz : Nat) (hc : p1 - p1 / 9 * 9 < 0) : Met l yL_grid [Cond.codeWith yL_grid cL_grid 5 (some .int) [(0, 10, 13, 29)]] ({ frames := 9, cells := 1, slots := 8, locals := 170 } : Room) (xPM s0 (dC, dI) [.ref b, .int p1, .int p2, .ref lk] [(b, .inr (5, [.ref ro, .ref gr, .ref br, .int wr, .int ca]))] [(lk, .inl (cA 1, 1, .inr (.inl lf)))] sz) (xQM (dC, dI) (va_A [(lk, .inl (cA 1, 1, .inr (.inl lf)))] sz) (fun r w1 => r = some (.int 1) ∧ w1 = [(lk, .inl (cA 1, 1, .inr (.inl lf)))])) 1 8 (va_A [(lk, .inl (cA 1, 1, .inr (.inl lf)))] sz) := by
  refine va_MetW (cc := cL_grid) (maxL := 5) (ret := (some .int)) (hh := [(0, 10, 13, 29)]) (by decide) rfl ?_
  intro p e s m args below meth c s₁ B hml hv
  obtain ⟨rfl, rfl, hb0, hPr, hP, hD0⟩ := hv
  have hx := B.exec
  have hb := B.bytes
  have hr := B.returns
  have hown : s.vm.findClass RL = some m.cls := findClass_of_methodNamed B.named
  have hlocks := B.notSynchronized
  have hK := h.K hb0
  have htab : c.exceptionTable.toList = [⟨0, 10, 13, 29⟩] := xtab (k_310 (args := #[]) h hb0) B.named B.method (Stand.of_body B).code
  have hS : va_S (va_A [(lk, .inl (cA 1, 1, .inr (.inl lf)))] s.heap.size) s.heap s.heap [] := va_S.rf
  obtain ⟨A, hAe, hD, hA, hz, hRo, hwk, hnR⟩ := xM_start hb0 hPr hP hD0
  rw [hAe] at hS ⊢
  have hl := lv_entry ([.ref b, .int p1, .int p2, .ref lk]) (n := 5) (Nat.le_of_ble_eq_true rfl)
  rw [lg_entry_eq]
  generalize (lg_sl ([.ref b, .int p1, .int p2, .ref lk]) ++ List.replicate (5 - (lg_sl ([.ref b, .int p1, .int p2, .ref lk])).length) Slot.unset).toArray = ls at hl ⊢
  have hl : lv_has ls 5 [(0, .ref b), (1, .int p1), (2, .int p2), (3, .ref lk)] := hl
  refine lv_aload_n hx hb dL_grid_0 rfl (lv_at hl 3 rfl) ?_
  refine lv_iconst (v := 0) hx hb dL_grid_1 (by decide) ?_
  refine lv_aload_n hx hb dL_grid_2 rfl (lv_at hl 0 rfl) ?_
  refine lv_iload_n hx hb dL_grid_3 rfl (lv_at hl 1 rfl) ?_
  refine lv_iload_n hx hb dL_grid_4 rfl (lv_at hl 2 rfl) ?_
  refine xt_callV (As := [.int p1, .int p2]) (rest := [.int 0, .ref lk]) ⟨hx, hb, hml, hown, xTs⟩ (t_grid_1 h b gr br wr ca ro gc z1 z2 z3 p1 p2 hc) ⟨xB (n := 2) (k_314 h hb0) (k_1 h hb0) (k_311 h hb0) (by decide) rfl rfl rfl (by decide) (by decide), (k_312 h hb0), (k_313 h hb0)⟩ (xpV hb0 hS hz (va_P.sub (hRo _ _ hS) [0] rfl) (va_recv hK (hRo _ _ hS) (ci := 5) (q0 := 0) rfl rfl)) rfl rfl hl.1 rfl (lv_room (Nat.le_of_ble_eq_true rfl)) dL_grid_5 ⟨(Nat.le_of_ble_eq_true rfl), (Nat.le_of_ble_eq_true rfl)⟩ (fun q ce H h1 h2 h3 h4 h5 => ?_)
  refine xt_catch hown [] ⟨0, 10, 13, 29⟩ [] htab xnone rfl (by decide) (k_279 h hb0) (k_289 h hb0) h1 h2 h3 ?_
  have hP := xgrow hP h5
  have hS := xgrowS hS h4 h5
  show W _ _ _ _ _ _ _ _ _ _ _ _ _ _ _ (F0 m 13 ls [.ref q])
  refine lv_astore (lv' := [(4, .ref q), (0, .ref b), (1, .int p1), (2, .int p2), (3, .ref lk)]) hx hb dL_grid_13 hl (by decide) rfl (fun ls hl => ?_)
  refine lv_iconst (v := 1) hx hb dL_grid_15 (by decide) ?_
  exact W.iret hx hb hr (fun t ht _ => ⟨(some (.int 1)), _, rfl, ⟨rfl, rfl⟩, by rw [ht]; exact hP, hD, hS.F ht⟩) (fun q z => hS.2.2 q z) dL_grid_16
set_option maxHeartbeats 4000000 in
set_option maxRecDepth 100000 in
theorem l_t_grid_2 {l : Launch} {s0 : State} {a0 : Array Value} {dC : Nat → ClassId} {dI : Nat → Nat → Nat} {cA : Nat → ClassId} (h : xC l s0 a0 dC dI cA) (b gr br : Nat) (wr ca : Int32) (ro gc : Nat) (z1 z2 z3 p1 p2 : Int32) (lk : Nat) (lf : Nat → Int64) (sz : Nat) (hc : ¬ p1 - p1 / 9 * 9 < 0) (hd : p2 - p2 / 9 * 9 < 0) : Met l yL_grid [Cond.codeWith yL_grid cL_grid 5 (some .int) [(0, 10, 13, 29)]] ({ frames := 9, cells := 1, slots := 8, locals := 170 } : Room) (xPM s0 (dC, dI) [.ref b, .int p1, .int p2, .ref lk] [(b, .inr (5, [.ref ro, .ref gr, .ref br, .int wr, .int ca]))] [(lk, .inl (cA 1, 1, .inr (.inl lf)))] sz) (xQM (dC, dI) (va_A [(lk, .inl (cA 1, 1, .inr (.inl lf)))] sz) (fun r w1 => r = some (.int 1) ∧ w1 = [(lk, .inl (cA 1, 1, .inr (.inl lf)))])) 1 8 (va_A [(lk, .inl (cA 1, 1, .inr (.inl lf)))] sz) := by
  refine va_MetW (cc := cL_grid) (maxL := 5) (ret := (some .int)) (hh := [(0, 10, 13, 29)]) (by decide) rfl ?_
  intro p e s m args below meth c s₁ B hml hv
  obtain ⟨rfl, rfl, hb0, hPr, hP, hD0⟩ := hv
  have hx := B.exec
  have hb := B.bytes
  have hr := B.returns
  have hown : s.vm.findClass RL = some m.cls := findClass_of_methodNamed B.named
  have hlocks := B.notSynchronized
  have hK := h.K hb0
  have htab : c.exceptionTable.toList = [⟨0, 10, 13, 29⟩] := xtab (k_310 (args := #[]) h hb0) B.named B.method (Stand.of_body B).code
  have hS : va_S (va_A [(lk, .inl (cA 1, 1, .inr (.inl lf)))] s.heap.size) s.heap s.heap [] := va_S.rf
  obtain ⟨A, hAe, hD, hA, hz, hRo, hwk, hnR⟩ := xM_start hb0 hPr hP hD0
  rw [hAe] at hS ⊢
  have hl := lv_entry ([.ref b, .int p1, .int p2, .ref lk]) (n := 5) (Nat.le_of_ble_eq_true rfl)
  rw [lg_entry_eq]
  generalize (lg_sl ([.ref b, .int p1, .int p2, .ref lk]) ++ List.replicate (5 - (lg_sl ([.ref b, .int p1, .int p2, .ref lk])).length) Slot.unset).toArray = ls at hl ⊢
  have hl : lv_has ls 5 [(0, .ref b), (1, .int p1), (2, .int p2), (3, .ref lk)] := hl
  refine lv_aload_n hx hb dL_grid_0 rfl (lv_at hl 3 rfl) ?_
  refine lv_iconst (v := 0) hx hb dL_grid_1 (by decide) ?_
  refine lv_aload_n hx hb dL_grid_2 rfl (lv_at hl 0 rfl) ?_
  refine lv_iload_n hx hb dL_grid_3 rfl (lv_at hl 1 rfl) ?_
  refine lv_iload_n hx hb dL_grid_4 rfl (lv_at hl 2 rfl) ?_
  refine xt_callV (As := [.int p1, .int p2]) (rest := [.int 0, .ref lk]) ⟨hx, hb, hml, hown, xTs⟩ (t_grid_2 h b gr br wr ca ro gc z1 z2 z3 p1 p2 hc hd) ⟨xB (n := 2) (k_314 h hb0) (k_1 h hb0) (k_311 h hb0) (by decide) rfl rfl rfl (by decide) (by decide), (k_312 h hb0), (k_313 h hb0)⟩ (xpV hb0 hS hz (va_P.sub (hRo _ _ hS) [0] rfl) (va_recv hK (hRo _ _ hS) (ci := 5) (q0 := 0) rfl rfl)) rfl rfl hl.1 rfl (lv_room (Nat.le_of_ble_eq_true rfl)) dL_grid_5 ⟨(Nat.le_of_ble_eq_true rfl), (Nat.le_of_ble_eq_true rfl)⟩ (fun q ce H h1 h2 h3 h4 h5 => ?_)
  refine xt_catch hown [] ⟨0, 10, 13, 29⟩ [] htab xnone rfl (by decide) (k_279 h hb0) (k_289 h hb0) h1 h2 h3 ?_
  have hP := xgrow hP h5
  have hS := xgrowS hS h4 h5
  show W _ _ _ _ _ _ _ _ _ _ _ _ _ _ _ (F0 m 13 ls [.ref q])
  refine lv_astore (lv' := [(4, .ref q), (0, .ref b), (1, .int p1), (2, .int p2), (3, .ref lk)]) hx hb dL_grid_13 hl (by decide) rfl (fun ls hl => ?_)
  refine lv_iconst (v := 1) hx hb dL_grid_15 (by decide) ?_
  exact W.iret hx hb hr (fun t ht _ => ⟨(some (.int 1)), _, rfl, ⟨rfl, rfl⟩, by rw [ht]; exact hP, hD, hS.F ht⟩) (fun q z => hS.2.2 q z) dL_grid_16
set_option maxHeartbeats 4000000 in
set_option maxRecDepth 100000 in
theorem l_c_cell {l : Launch} {s0 : State} {a0 : Array Value} {dC : Nat → ClassId} {dI : Nat → Nat → Nat} {cA : Nat → ClassId} (h : xC l s0 a0 dC dI cA) (b gr br : Nat) (wr ca : Int32) (ro gc : Nat) (z1 z2 z3 p2 : Int32) (ga : Nat → Nat) (gf : Nat → Int32) (I : Nat) (lk : Nat) (lf : Nat → Int64) (sz : Nat) (hm : z1 = 0 ∨ z1 = 1) (ht : ¬ z1 = 0) (hI : I < 8) (h1 : nI I < z2) (h2 : ¬ p2 < 0) (h3 : p2 < z3) (hi : vp_in p2 8) : Met l yL_cell [Cond.codeWith yL_cell cL_cell 5 (some .int) [(0, 10, 13, 13), (0, 10, 17, 15)]] ({ frames := 2, cells := 0, slots := 0, locals := 70 } : Room) (xPM s0 (dC, dI) [.ref b, .int (nI I), .int p2, .ref lk] [(b, .inr (5, [.ref ro, .ref gr, .ref br, .int wr, .int ca])), (gr, .inr (3, [.ref gc, .int z1, .int z2, .int z3])), (gc, .inl (cA 9, 8, .inr (.inr (.inr (.inr (fun i => some (ga i))))))), (ga I, .inl (cA 0, 8, .inl gf))] [(lk, .inl (cA 1, 1, .inr (.inl lf)))] sz) (xQM (dC, dI) (va_A [(lk, .inl (cA 1, 1, .inr (.inl lf)))] sz) (fun r w1 => r = some (.int 0) ∧ w1 = [(lk, .inl (cA 1, 1, .inr (.inl (vp_updL lf 0 ((gf p2.toNatClampNeg).toInt64)))))])) 0 0 (va_A [(lk, .inl (cA 1, 1, .inr (.inl lf)))] sz) := by
  refine va_MetW (cc := cL_cell) (maxL := 5) (ret := (some .int)) (hh := [(0, 10, 13, 13), (0, 10, 17, 15)]) (by decide) rfl ?_
  intro p e s m args below meth c s₁ B hml hv
  obtain ⟨rfl, rfl, hb0, hPr, hP, hD0⟩ := hv
  have hx := B.exec
  have hb := B.bytes
  have hr := B.returns
  have hown : s.vm.findClass RL = some m.cls := findClass_of_methodNamed B.named
  have hlocks := B.notSynchronized
  have hK := h.K hb0
  have htab : c.exceptionTable.toList = [⟨0, 10, 13, 13⟩, ⟨0, 10, 17, 15⟩] := xtab (k_321 (args := #[]) h hb0) B.named B.method (Stand.of_body B).code
  have hS : va_S (va_A [(lk, .inl (cA 1, 1, .inr (.inl lf)))] s.heap.size) s.heap s.heap [] := va_S.rf
  obtain ⟨A, hAe, hD, hA, hz, hRo, hwk, hnR⟩ := xM_start hb0 hPr hP hD0
  rw [hAe] at hS ⊢
  have hl := lv_entry ([.ref b, .int (nI I), .int p2, .ref lk]) (n := 5) (Nat.le_of_ble_eq_true rfl)
  rw [lg_entry_eq]
  generalize (lg_sl ([.ref b, .int (nI I), .int p2, .ref lk]) ++ List.replicate (5 - (lg_sl ([.ref b, .int (nI I), .int p2, .ref lk])).length) Slot.unset).toArray = ls at hl ⊢
  have hl : lv_has ls 5 [(0, .ref b), (1, .int (nI I)), (2, .int p2), (3, .ref lk)] := hl
  refine lv_aload_n hx hb dL_cell_0 rfl (lv_at hl 3 rfl) ?_
  refine lv_iconst (v := 0) hx hb dL_cell_1 (by decide) ?_
  refine lv_aload_n hx hb dL_cell_2 rfl (lv_at hl 0 rfl) ?_
  refine lv_iload_n hx hb dL_cell_3 rfl (lv_at hl 1 rfl) ?_
  refine lv_iload_n hx hb dL_cell_4 rfl (lv_at hl 2 rfl) ?_
  refine xr_1 (va_runV (As := [.int (nI I), .int p2]) (rest := [.int 0, .ref lk]) ⟨hx, hb, hml, hown, xTs⟩ (c_cell h b gr br wr ca ro gc z1 z2 z3 p2 ga gf I hm ht hI h1 h2 h3 hi) ⟨xB (n := 2) (k_325 h hb0) (k_1 h hb0) (k_322 h hb0) (by decide) rfl rfl rfl (by decide) (by decide), (k_323 h hb0), (k_324 h hb0)⟩ (xpV hb0 hS hz (va_P.sub (hRo _ _ hS) [0, 1, 2, 3] rfl) (va_recv hK (hRo _ _ hS) (ci := 5) (q0 := 0) rfl rfl)) rfl rfl hl.1 rfl (lv_room (Nat.le_of_ble_eq_true rfl)) dL_cell_5 ⟨(Nat.le_of_ble_eq_true rfl), (Nat.le_of_ble_eq_true rfl)⟩) ?_
  refine lv_i2l hx hb dL_cell_8 rfl ?_
  refine va_last hx hb hK hP hD hS 0 1 rfl rfl xin0 dL_cell_9 (fun H locs hP hD hS => ?_)
  have hP : va_P (dC, dI) vwCl [(lk, .inl (cA 1, 1, .inr (.inl (vp_updL lf (0 : Int32).toNatClampNeg ((gf p2.toNatClampNeg).toInt64)))))] H := hP
  have hD : va_D A [(lk, .inl (cA 1, 1, .inr (.inl (vp_updL lf (0 : Int32).toNatClampNeg ((gf p2.toNatClampNeg).toInt64)))))] := hD
  refine lv_goto (tgt := 21) hx hb dL_cell_10 (by decide) ?_
  refine lv_iconst (v := 0) hx hb dL_cell_21 (by decide) ?_
  exact W.iret hx hb hr (fun t ht _ => ⟨(some (.int 0)), _, rfl, ⟨rfl, rfl⟩, by rw [ht]; exact hP, hD, hS.F ht⟩) (fun q z => hS.2.2 q z) dL_cell_22
set_option maxHeartbeats 4000000 in
set_option maxRecDepth 100000 in
theorem l_t_cell_N {l : Launch} {s0 : State} {a0 : Array Value} {dC : Nat → ClassId} {dI : Nat → Nat → Nat} {cA : Nat → ClassId} (h : xC l s0 a0 dC dI cA) (b gr br : Nat) (wr ca : Int32) (ro gc : Nat) (z1 z2 z3 p1 p2 : Int32) (lk : Nat) (lf : Nat → Int64) (sz : Nat) (hm : z1 = 0 ∨ z1 = 1) (ht : z1 = 0) : Met l yL_cell [Cond.codeWith yL_cell cL_cell 5 (some .int) [(0, 10, 13, 13), (0, 10, 17, 15)]] ({ frames := 9, cells := 1, slots := 8, locals := 170 } : Room) (xPM s0 (dC, dI) [.ref b, .int p1, .int p2, .ref lk] [(b, .inr (5, [.ref ro, .ref gr, .ref br, .int wr, .int ca])), (gr, .inr (3, [.ref gc, .int z1, .int z2, .int z3]))] [(lk, .inl (cA 1, 1, .inr (.inl lf)))] sz) (xQM (dC, dI) (va_A [(lk, .inl (cA 1, 1, .inr (.inl lf)))] sz) (fun r w1 => r = some (.int 1) ∧ w1 = [(lk, .inl (cA 1, 1, .inr (.inl lf)))])) 1 8 (va_A [(lk, .inl (cA 1, 1, .inr (.inl lf)))] sz) := by
  refine va_MetW (cc := cL_cell) (maxL := 5) (ret := (some .int)) (hh := [(0, 10, 13, 13), (0, 10, 17, 15)]) (by decide) rfl ?_
  intro p e s m args below meth c s₁ B hml hv
  obtain ⟨rfl, rfl, hb0, hPr, hP, hD0⟩ := hv
  have hx := B.exec
  have hb := B.bytes
  have hr := B.returns
  have hown : s.vm.findClass RL = some m.cls := findClass_of_methodNamed B.named
  have hlocks := B.notSynchronized
  have hK := h.K hb0
  have htab : c.exceptionTable.toList = [⟨0, 10, 13, 13⟩, ⟨0, 10, 17, 15⟩] := xtab (k_321 (args := #[]) h hb0) B.named B.method (Stand.of_body B).code
  have hS : va_S (va_A [(lk, .inl (cA 1, 1, .inr (.inl lf)))] s.heap.size) s.heap s.heap [] := va_S.rf
  obtain ⟨A, hAe, hD, hA, hz, hRo, hwk, hnR⟩ := xM_start hb0 hPr hP hD0
  rw [hAe] at hS ⊢
  have hl := lv_entry ([.ref b, .int p1, .int p2, .ref lk]) (n := 5) (Nat.le_of_ble_eq_true rfl)
  rw [lg_entry_eq]
  generalize (lg_sl ([.ref b, .int p1, .int p2, .ref lk]) ++ List.replicate (5 - (lg_sl ([.ref b, .int p1, .int p2, .ref lk])).length) Slot.unset).toArray = ls at hl ⊢
  have hl : lv_has ls 5 [(0, .ref b), (1, .int p1), (2, .int p2), (3, .ref lk)] := hl
  refine lv_aload_n hx hb dL_cell_0 rfl (lv_at hl 3 rfl) ?_
  refine lv_iconst (v := 0) hx hb dL_cell_1 (by decide) ?_
  refine lv_aload_n hx hb dL_cell_2 rfl (lv_at hl 0 rfl) ?_
  refine lv_iload_n hx hb dL_cell_3 rfl (lv_at hl 1 rfl) ?_
  refine lv_iload_n hx hb dL_cell_4 rfl (lv_at hl 2 rfl) ?_
  refine xt_callV (As := [.int p1, .int p2]) (rest := [.int 0, .ref lk]) ⟨hx, hb, hml, hown, xTs⟩ (t_cell_N h b gr br wr ca ro gc z1 z2 z3 p1 p2 hm ht) ⟨xB (n := 2) (k_325 h hb0) (k_1 h hb0) (k_322 h hb0) (by decide) rfl rfl rfl (by decide) (by decide), (k_323 h hb0), (k_324 h hb0)⟩ (xpV hb0 hS hz (va_P.sub (hRo _ _ hS) [0, 1] rfl) (va_recv hK (hRo _ _ hS) (ci := 5) (q0 := 0) rfl rfl)) rfl rfl hl.1 rfl (lv_room (Nat.le_of_ble_eq_true rfl)) dL_cell_5 ⟨(Nat.le_of_ble_eq_true rfl), (Nat.le_of_ble_eq_true rfl)⟩ (fun q ce H h1 h2 h3 h4 h5 => ?_)
  refine xt_catch hown [] ⟨0, 10, 13, 13⟩ [⟨0, 10, 17, 15⟩] htab xnone rfl (by decide) (k_129 h hb0) (k_143 h hb0) h1 h2 h3 ?_
  have hP := xgrow hP h5
  have hS := xgrowS hS h4 h5
  show W _ _ _ _ _ _ _ _ _ _ _ _ _ _ _ (F0 m 13 ls [.ref q])
  refine lv_astore (lv' := [(4, .ref q), (0, .ref b), (1, .int p1), (2, .int p2), (3, .ref lk)]) hx hb dL_cell_13 hl (by decide) rfl (fun ls hl => ?_)
  refine lv_iconst (v := 1) hx hb dL_cell_15 (by decide) ?_
  exact W.iret hx hb hr (fun t ht _ => ⟨(some (.int 1)), _, rfl, ⟨rfl, rfl⟩, by rw [ht]; exact hP, hD, hS.F ht⟩) (fun q z => hS.2.2 q z) dL_cell_16
set_option maxHeartbeats 4000000 in
set_option maxRecDepth 100000 in
theorem l_t_cell_1 {l : Launch} {s0 : State} {a0 : Array Value} {dC : Nat → ClassId} {dI : Nat → Nat → Nat} {cA : Nat → ClassId} (h : xC l s0 a0 dC dI cA) (b gr br : Nat) (wr ca : Int32) (ro gc : Nat) (z1 z2 z3 p1 p2 : Int32) (lk : Nat) (lf : Nat → Int64) (sz : Nat) (hm : z1 = 0 ∨ z1 = 1) (ht : ¬ z1 = 0) (hc : p1 < 0 ∨ ¬ p1 < z2) : Met l yL_cell [Cond.codeWith yL_cell cL_cell 5 (some .int) [(0, 10, 13, 13), (0, 10, 17, 15)]] ({ frames := 9, cells := 1, slots := 8, locals := 170 } : Room) (xPM s0 (dC, dI) [.ref b, .int p1, .int p2, .ref lk] [(b, .inr (5, [.ref ro, .ref gr, .ref br, .int wr, .int ca])), (gr, .inr (3, [.ref gc, .int z1, .int z2, .int z3]))] [(lk, .inl (cA 1, 1, .inr (.inl lf)))] sz) (xQM (dC, dI) (va_A [(lk, .inl (cA 1, 1, .inr (.inl lf)))] sz) (fun r w1 => r = some (.int 2) ∧ w1 = [(lk, .inl (cA 1, 1, .inr (.inl lf)))])) 1 8 (va_A [(lk, .inl (cA 1, 1, .inr (.inl lf)))] sz) := by
  refine va_MetW (cc := cL_cell) (maxL := 5) (ret := (some .int)) (hh := [(0, 10, 13, 13), (0, 10, 17, 15)]) (by decide) rfl ?_
  intro p e s m args below meth c s₁ B hml hv
  obtain ⟨rfl, rfl, hb0, hPr, hP, hD0⟩ := hv
  have hx := B.exec
  have hb := B.bytes
  have hr := B.returns
  have hown : s.vm.findClass RL = some m.cls := findClass_of_methodNamed B.named
  have hlocks := B.notSynchronized
  have hK := h.K hb0
  have htab : c.exceptionTable.toList = [⟨0, 10, 13, 13⟩, ⟨0, 10, 17, 15⟩] := xtab (k_321 (args := #[]) h hb0) B.named B.method (Stand.of_body B).code
  have hS : va_S (va_A [(lk, .inl (cA 1, 1, .inr (.inl lf)))] s.heap.size) s.heap s.heap [] := va_S.rf
  obtain ⟨A, hAe, hD, hA, hz, hRo, hwk, hnR⟩ := xM_start hb0 hPr hP hD0
  rw [hAe] at hS ⊢
  have hl := lv_entry ([.ref b, .int p1, .int p2, .ref lk]) (n := 5) (Nat.le_of_ble_eq_true rfl)
  rw [lg_entry_eq]
  generalize (lg_sl ([.ref b, .int p1, .int p2, .ref lk]) ++ List.replicate (5 - (lg_sl ([.ref b, .int p1, .int p2, .ref lk])).length) Slot.unset).toArray = ls at hl ⊢
  have hl : lv_has ls 5 [(0, .ref b), (1, .int p1), (2, .int p2), (3, .ref lk)] := hl
  refine lv_aload_n hx hb dL_cell_0 rfl (lv_at hl 3 rfl) ?_
  refine lv_iconst (v := 0) hx hb dL_cell_1 (by decide) ?_
  refine lv_aload_n hx hb dL_cell_2 rfl (lv_at hl 0 rfl) ?_
  refine lv_iload_n hx hb dL_cell_3 rfl (lv_at hl 1 rfl) ?_
  refine lv_iload_n hx hb dL_cell_4 rfl (lv_at hl 2 rfl) ?_
  refine xt_callV (As := [.int p1, .int p2]) (rest := [.int 0, .ref lk]) ⟨hx, hb, hml, hown, xTs⟩ (t_cell_1 h b gr br wr ca ro gc z1 z2 z3 p1 p2 hm ht hc) ⟨xB (n := 2) (k_325 h hb0) (k_1 h hb0) (k_322 h hb0) (by decide) rfl rfl rfl (by decide) (by decide), (k_323 h hb0), (k_324 h hb0)⟩ (xpV hb0 hS hz (va_P.sub (hRo _ _ hS) [0, 1] rfl) (va_recv hK (hRo _ _ hS) (ci := 5) (q0 := 0) rfl rfl)) rfl rfl hl.1 rfl (lv_room (Nat.le_of_ble_eq_true rfl)) dL_cell_5 ⟨(Nat.le_of_ble_eq_true rfl), (Nat.le_of_ble_eq_true rfl)⟩ (fun q ce H h1 h2 h3 h4 h5 => ?_)
  refine xt_catch hown [⟨0, 10, 13, 13⟩] ⟨0, 10, 17, 15⟩ [] htab (fun z hz2 => by rw [List.mem_singleton] at hz2; rw [hz2]; exact ⟨rfl, by decide, _, k_129 h hb0, nc_IN h hb0⟩) rfl (by decide) (k_130 h hb0) (k_235 h hb0) h1 h2 h3 ?_
  have hP := xgrow hP h5
  have hS := xgrowS hS h4 h5
  show W _ _ _ _ _ _ _ _ _ _ _ _ _ _ _ (F0 m 17 ls [.ref q])
  refine lv_astore (lv' := [(4, .ref q), (0, .ref b), (1, .int p1), (2, .int p2), (3, .ref lk)]) hx hb dL_cell_17 hl (by decide) rfl (fun ls hl => ?_)
  refine lv_iconst (v := 2) hx hb dL_cell_19 (by decide) ?_
  exact W.iret hx hb hr (fun t ht _ => ⟨(some (.int 2)), _, rfl, ⟨rfl, rfl⟩, by rw [ht]; exact hP, hD, hS.F ht⟩) (fun q z => hS.2.2 q z) dL_cell_20
set_option maxHeartbeats 4000000 in
set_option maxRecDepth 100000 in
theorem l_t_cell_2 {l : Launch} {s0 : State} {a0 : Array Value} {dC : Nat → ClassId} {dI : Nat → Nat → Nat} {cA : Nat → ClassId} (h : xC l s0 a0 dC dI cA) (b gr br : Nat) (wr ca : Int32) (ro gc : Nat) (z1 z2 z3 p1 p2 : Int32) (lk : Nat) (lf : Nat → Int64) (sz : Nat) (hm : z1 = 0 ∨ z1 = 1) (ht : ¬ z1 = 0) (h0 : ¬ p1 < 0) (h1 : p1 < z2) (hc : p2 < 0 ∨ ¬ p2 < z3) : Met l yL_cell [Cond.codeWith yL_cell cL_cell 5 (some .int) [(0, 10, 13, 13), (0, 10, 17, 15)]] ({ frames := 9, cells := 1, slots := 8, locals := 170 } : Room) (xPM s0 (dC, dI) [.ref b, .int p1, .int p2, .ref lk] [(b, .inr (5, [.ref ro, .ref gr, .ref br, .int wr, .int ca])), (gr, .inr (3, [.ref gc, .int z1, .int z2, .int z3]))] [(lk, .inl (cA 1, 1, .inr (.inl lf)))] sz) (xQM (dC, dI) (va_A [(lk, .inl (cA 1, 1, .inr (.inl lf)))] sz) (fun r w1 => r = some (.int 2) ∧ w1 = [(lk, .inl (cA 1, 1, .inr (.inl lf)))])) 1 8 (va_A [(lk, .inl (cA 1, 1, .inr (.inl lf)))] sz) := by
  refine va_MetW (cc := cL_cell) (maxL := 5) (ret := (some .int)) (hh := [(0, 10, 13, 13), (0, 10, 17, 15)]) (by decide) rfl ?_
  intro p e s m args below meth c s₁ B hml hv
  obtain ⟨rfl, rfl, hb0, hPr, hP, hD0⟩ := hv
  have hx := B.exec
  have hb := B.bytes
  have hr := B.returns
  have hown : s.vm.findClass RL = some m.cls := findClass_of_methodNamed B.named
  have hlocks := B.notSynchronized
  have hK := h.K hb0
  have htab : c.exceptionTable.toList = [⟨0, 10, 13, 13⟩, ⟨0, 10, 17, 15⟩] := xtab (k_321 (args := #[]) h hb0) B.named B.method (Stand.of_body B).code
  have hS : va_S (va_A [(lk, .inl (cA 1, 1, .inr (.inl lf)))] s.heap.size) s.heap s.heap [] := va_S.rf
  obtain ⟨A, hAe, hD, hA, hz, hRo, hwk, hnR⟩ := xM_start hb0 hPr hP hD0
  rw [hAe] at hS ⊢
  have hl := lv_entry ([.ref b, .int p1, .int p2, .ref lk]) (n := 5) (Nat.le_of_ble_eq_true rfl)
  rw [lg_entry_eq]
  generalize (lg_sl ([.ref b, .int p1, .int p2, .ref lk]) ++ List.replicate (5 - (lg_sl ([.ref b, .int p1, .int p2, .ref lk])).length) Slot.unset).toArray = ls at hl ⊢
  have hl : lv_has ls 5 [(0, .ref b), (1, .int p1), (2, .int p2), (3, .ref lk)] := hl
  refine lv_aload_n hx hb dL_cell_0 rfl (lv_at hl 3 rfl) ?_
  refine lv_iconst (v := 0) hx hb dL_cell_1 (by decide) ?_
  refine lv_aload_n hx hb dL_cell_2 rfl (lv_at hl 0 rfl) ?_
  refine lv_iload_n hx hb dL_cell_3 rfl (lv_at hl 1 rfl) ?_
  refine lv_iload_n hx hb dL_cell_4 rfl (lv_at hl 2 rfl) ?_
  refine xt_callV (As := [.int p1, .int p2]) (rest := [.int 0, .ref lk]) ⟨hx, hb, hml, hown, xTs⟩ (t_cell_2 h b gr br wr ca ro gc z1 z2 z3 p1 p2 hm ht h0 h1 hc) ⟨xB (n := 2) (k_325 h hb0) (k_1 h hb0) (k_322 h hb0) (by decide) rfl rfl rfl (by decide) (by decide), (k_323 h hb0), (k_324 h hb0)⟩ (xpV hb0 hS hz (va_P.sub (hRo _ _ hS) [0, 1] rfl) (va_recv hK (hRo _ _ hS) (ci := 5) (q0 := 0) rfl rfl)) rfl rfl hl.1 rfl (lv_room (Nat.le_of_ble_eq_true rfl)) dL_cell_5 ⟨(Nat.le_of_ble_eq_true rfl), (Nat.le_of_ble_eq_true rfl)⟩ (fun q ce H h1 h2 h3 h4 h5 => ?_)
  refine xt_catch hown [⟨0, 10, 13, 13⟩] ⟨0, 10, 17, 15⟩ [] htab (fun z hz2 => by rw [List.mem_singleton] at hz2; rw [hz2]; exact ⟨rfl, by decide, _, k_129 h hb0, nc_IN h hb0⟩) rfl (by decide) (k_130 h hb0) (k_235 h hb0) h1 h2 h3 ?_
  have hP := xgrow hP h5
  have hS := xgrowS hS h4 h5
  show W _ _ _ _ _ _ _ _ _ _ _ _ _ _ _ (F0 m 17 ls [.ref q])
  refine lv_astore (lv' := [(4, .ref q), (0, .ref b), (1, .int p1), (2, .int p2), (3, .ref lk)]) hx hb dL_cell_17 hl (by decide) rfl (fun ls hl => ?_)
  refine lv_iconst (v := 2) hx hb dL_cell_19 (by decide) ?_
  exact W.iret hx hb hr (fun t ht _ => ⟨(some (.int 2)), _, rfl, ⟨rfl, rfl⟩, by rw [ht]; exact hP, hD, hS.F ht⟩) (fun q z => hS.2.2 q z) dL_cell_20
set_option maxHeartbeats 4000000 in
set_option maxRecDepth 100000 in
theorem l_c_boxes {l : Launch} {s0 : State} {a0 : Array Value} {dC : Nat → ClassId} {dI : Nat → Nat → Nat} {cA : Nat → ClassId} (h : xC l s0 a0 dC dI cA) (b gr br : Nat) (wr ca : Int32) (ro pl : Nat) (z1 z2 z3 p1 p2 : Int32) (f : Nat → Option Nat) (N : Nat) (lk : Nat) (lf : Nat → Int64) (sz : Nat) (hN : p1 - p1 / 20 * 20 = nI N) (hN4 : N < 20) (h01 : p2 = 0 ∨ p2 = 1) : Met l yL_boxes [Cond.codeWith yL_boxes cL_boxes 5 (some .int) [(0, 10, 13, 29)]] ({ frames := 2, cells := 0, slots := 0, locals := 70 } : Room) (xPM s0 (dC, dI) [.ref b, .int p1, .int p2, .ref lk] [(b, .inr (5, [.ref ro, .ref gr, .ref br, .int wr, .int ca]))] [(lk, .inl (cA 1, 1, .inr (.inl lf))), (br, .inr (1, [.ref pl, .int z1, .int z2, .int z3])), (pl, .inl (cA 8, 19, .inr (.inr (.inr (.inr f)))))] sz) (xQM (dC, dI) (va_A [(lk, .inl (cA 1, 1, .inr (.inl lf))), (br, .inr (1, [.ref pl, .int z1, .int z2, .int z3])), (pl, .inl (cA 8, 19, .inr (.inr (.inr (.inr f)))))] sz) (fun r w1 => r = some (.int 0) ∧ w1 = [(lk, .inl (cA 1, 1, .inr (.inl (vp_updL lf 0 ((nI N).toInt64))))), (br, .inr (1, [.ref pl, .int 1, .int p2, .int (nI N)])), (pl, .inl (cA 8, 19, .inr (.inr (.inr (.inr (pz f N))))))])) 0 0 (va_A [(lk, .inl (cA 1, 1, .inr (.inl lf))), (br, .inr (1, [.ref pl, .int z1, .int z2, .int z3])), (pl, .inl (cA 8, 19, .inr (.inr (.inr (.inr f)))))] sz) := by
  refine va_MetW (cc := cL_boxes) (maxL := 5) (ret := (some .int)) (hh := [(0, 10, 13, 29)]) (by decide) rfl ?_
  intro p e s m args below meth c s₁ B hml hv
  obtain ⟨rfl, rfl, hb0, hPr, hP, hD0⟩ := hv
  have hx := B.exec
  have hb := B.bytes
  have hr := B.returns
  have hown : s.vm.findClass RL = some m.cls := findClass_of_methodNamed B.named
  have hlocks := B.notSynchronized
  have hK := h.K hb0
  have htab : c.exceptionTable.toList = [⟨0, 10, 13, 29⟩] := xtab (k_344 (args := #[]) h hb0) B.named B.method (Stand.of_body B).code
  have hS : va_S (va_A [(lk, .inl (cA 1, 1, .inr (.inl lf))), (br, .inr (1, [.ref pl, .int z1, .int z2, .int z3])), (pl, .inl (cA 8, 19, .inr (.inr (.inr (.inr f)))))] s.heap.size) s.heap s.heap [] := va_S.rf
  obtain ⟨A, hAe, hD, hA, hz, hRo, hwk, hnR⟩ := xM_start hb0 hPr hP hD0
  rw [hAe] at hS ⊢
  have hl := lv_entry ([.ref b, .int p1, .int p2, .ref lk]) (n := 5) (Nat.le_of_ble_eq_true rfl)
  rw [lg_entry_eq]
  generalize (lg_sl ([.ref b, .int p1, .int p2, .ref lk]) ++ List.replicate (5 - (lg_sl ([.ref b, .int p1, .int p2, .ref lk])).length) Slot.unset).toArray = ls at hl ⊢
  have hl : lv_has ls 5 [(0, .ref b), (1, .int p1), (2, .int p2), (3, .ref lk)] := hl
  refine lv_aload_n hx hb dL_boxes_0 rfl (lv_at hl 3 rfl) ?_
  refine lv_iconst (v := 0) hx hb dL_boxes_1 (by decide) ?_
  refine lv_aload_n hx hb dL_boxes_2 rfl (lv_at hl 0 rfl) ?_
  refine lv_iload_n hx hb dL_boxes_3 rfl (lv_at hl 1 rfl) ?_
  refine lv_iload_n hx hb dL_boxes_4 rfl (lv_at hl 2 rfl) ?_
  refine xm_of (wc := [(br, .inr (1, [.ref pl, .int z1, .int z2, .int z3])), (pl, .inl (cA 8, 19, .inr (.inr (.inr (.inr f)))))]) (wo := [(lk, .inl (cA 1, 1, .inr (.inl lf)))]) (va_runV (As := [.int p1, .int p2]) (rest := [.int 0, .ref lk]) ⟨hx, hb, hml, hown, xTs⟩ (c_boxes h b gr br wr ca ro pl z1 z2 z3 p1 p2 f N _ hN hN4 h01) ⟨xB (n := 2) (k_348 h hb0) (k_1 h hb0) (k_345 h hb0) (by decide) rfl rfl rfl (by decide) (by decide), (k_346 h hb0), (k_347 h hb0)⟩ (xpMV (wr := [(b, .inr (5, [.ref ro, .ref gr, .ref br, .int wr, .int ca]))]) (wc := [(br, .inr (1, [.ref pl, .int z1, .int z2, .int z3])), (pl, .inl (cA 8, 19, .inr (.inr (.inr (.inr f)))))]) hb0 hS hz (va_P.sub (hRo _ _ hS) [0] rfl) (va_P.sub hP [1, 2] rfl) (va_D.sub (xDD (xDl hD0) hD hz hnR) [0, 2, 3] rfl rfl) (va_recv hK (hRo _ _ hS) (ci := 5) (q0 := 0) rfl rfl)) rfl rfl hl.1 rfl (lv_room (Nat.le_of_ble_eq_true rfl)) dL_boxes_5 ⟨(Nat.le_of_ble_eq_true rfl), (Nat.le_of_ble_eq_true rfl)⟩) hP hD hS hA [1, 2] [0] rfl rfl rfl (by decide) (fun r w1 H locs hΦ hP hD hS => ?_)
  obtain ⟨rfl, rfl⟩ := hΦ
  have hP : va_P (dC, dI) vwCl [(lk, .inl (cA 1, 1, .inr (.inl lf))), (br, .inr (1, [.ref pl, .int 1, .int p2, .int (nI N)])), (pl, .inl (cA 8, 19, .inr (.inr (.inr (.inr (pz f N))))))] H := hP
  have hD : va_D A [(lk, .inl (cA 1, 1, .inr (.inl lf))), (br, .inr (1, [.ref pl, .int 1, .int p2, .int (nI N)])), (pl, .inl (cA 8, 19, .inr (.inr (.inr (.inr (pz f N))))))] := hD
  refine lv_i2l hx hb dL_boxes_8 rfl ?_
  refine va_last hx hb hK hP hD hS 0 1 rfl rfl xin0 dL_boxes_9 (fun H locs hP hD hS => ?_)
  have hP : va_P (dC, dI) vwCl [(lk, .inl (cA 1, 1, .inr (.inl (vp_updL lf (0 : Int32).toNatClampNeg ((nI N).toInt64))))), (br, .inr (1, [.ref pl, .int 1, .int p2, .int (nI N)])), (pl, .inl (cA 8, 19, .inr (.inr (.inr (.inr (pz f N))))))] H := hP
  have hD : va_D A [(lk, .inl (cA 1, 1, .inr (.inl (vp_updL lf (0 : Int32).toNatClampNeg ((nI N).toInt64))))), (br, .inr (1, [.ref pl, .int 1, .int p2, .int (nI N)])), (pl, .inl (cA 8, 19, .inr (.inr (.inr (.inr (pz f N))))))] := hD
  refine lv_goto (tgt := 17) hx hb dL_boxes_10 (by decide) ?_
  refine lv_iconst (v := 0) hx hb dL_boxes_17 (by decide) ?_
  exact W.iret hx hb hr (fun t ht _ => ⟨(some (.int 0)), _, rfl, ⟨rfl, rfl⟩, by rw [ht]; exact hP, hD, hS.F ht⟩) (fun q z => hS.2.2 q z) dL_boxes_18
set_option maxHeartbeats 4000000 in
set_option maxRecDepth 100000 in
theorem l_t_boxes_S {l : Launch} {s0 : State} {a0 : Array Value} {dC : Nat → ClassId} {dI : Nat → Nat → Nat} {cA : Nat → ClassId} (h : xC l s0 a0 dC dI cA) (b gr br : Nat) (wr ca : Int32) (ro pl : Nat) (z1 z2 z3 p1 p2 : Int32) (lk : Nat) (lf : Nat → Int64) (sz : Nat) (hc : p1 - p1 / 20 * 20 < 0) : Met l yL_boxes [Cond.codeWith yL_boxes cL_boxes 5 (some .int) [(0, 10, 13, 29)]] ({ frames := 9, cells := 1, slots := 8, locals := 170 } : Room) (xPM s0 (dC, dI) [.ref b, .int p1, .int p2, .ref lk] [(b, .inr (5, [.ref ro, .ref gr, .ref br, .int wr, .int ca]))] [(lk, .inl (cA 1, 1, .inr (.inl lf)))] sz) (xQM (dC, dI) (va_A [(lk, .inl (cA 1, 1, .inr (.inl lf)))] sz) (fun r w1 => r = some (.int 1) ∧ w1 = [(lk, .inl (cA 1, 1, .inr (.inl lf)))])) 1 8 (va_A [(lk, .inl (cA 1, 1, .inr (.inl lf)))] sz) := by
  refine va_MetW (cc := cL_boxes) (maxL := 5) (ret := (some .int)) (hh := [(0, 10, 13, 29)]) (by decide) rfl ?_
  intro p e s m args below meth c s₁ B hml hv
  obtain ⟨rfl, rfl, hb0, hPr, hP, hD0⟩ := hv
  have hx := B.exec
  have hb := B.bytes
  have hr := B.returns
  have hown : s.vm.findClass RL = some m.cls := findClass_of_methodNamed B.named
  have hlocks := B.notSynchronized
  have hK := h.K hb0
  have htab : c.exceptionTable.toList = [⟨0, 10, 13, 29⟩] := xtab (k_344 (args := #[]) h hb0) B.named B.method (Stand.of_body B).code
  have hS : va_S (va_A [(lk, .inl (cA 1, 1, .inr (.inl lf)))] s.heap.size) s.heap s.heap [] := va_S.rf
  obtain ⟨A, hAe, hD, hA, hz, hRo, hwk, hnR⟩ := xM_start hb0 hPr hP hD0
  rw [hAe] at hS ⊢
  have hl := lv_entry ([.ref b, .int p1, .int p2, .ref lk]) (n := 5) (Nat.le_of_ble_eq_true rfl)
  rw [lg_entry_eq]
  generalize (lg_sl ([.ref b, .int p1, .int p2, .ref lk]) ++ List.replicate (5 - (lg_sl ([.ref b, .int p1, .int p2, .ref lk])).length) Slot.unset).toArray = ls at hl ⊢
  have hl : lv_has ls 5 [(0, .ref b), (1, .int p1), (2, .int p2), (3, .ref lk)] := hl
  refine lv_aload_n hx hb dL_boxes_0 rfl (lv_at hl 3 rfl) ?_
  refine lv_iconst (v := 0) hx hb dL_boxes_1 (by decide) ?_
  refine lv_aload_n hx hb dL_boxes_2 rfl (lv_at hl 0 rfl) ?_
  refine lv_iload_n hx hb dL_boxes_3 rfl (lv_at hl 1 rfl) ?_
  refine lv_iload_n hx hb dL_boxes_4 rfl (lv_at hl 2 rfl) ?_
  refine xt_callV (As := [.int p1, .int p2]) (rest := [.int 0, .ref lk]) ⟨hx, hb, hml, hown, xTs⟩ (t_boxes_S h b gr br wr ca ro pl z1 z2 z3 p1 p2 hc) ⟨xB (n := 2) (k_348 h hb0) (k_1 h hb0) (k_345 h hb0) (by decide) rfl rfl rfl (by decide) (by decide), (k_346 h hb0), (k_347 h hb0)⟩ (xpV hb0 hS hz (va_P.sub (hRo _ _ hS) [0] rfl) (va_recv hK (hRo _ _ hS) (ci := 5) (q0 := 0) rfl rfl)) rfl rfl hl.1 rfl (lv_room (Nat.le_of_ble_eq_true rfl)) dL_boxes_5 ⟨(Nat.le_of_ble_eq_true rfl), (Nat.le_of_ble_eq_true rfl)⟩ (fun q ce H h1 h2 h3 h4 h5 => ?_)
  refine xt_catch hown [] ⟨0, 10, 13, 29⟩ [] htab xnone rfl (by decide) (k_279 h hb0) (k_289 h hb0) h1 h2 h3 ?_
  have hP := xgrow hP h5
  have hS := xgrowS hS h4 h5
  show W _ _ _ _ _ _ _ _ _ _ _ _ _ _ _ (F0 m 13 ls [.ref q])
  refine lv_astore (lv' := [(4, .ref q), (0, .ref b), (1, .int p1), (2, .int p2), (3, .ref lk)]) hx hb dL_boxes_13 hl (by decide) rfl (fun ls hl => ?_)
  refine lv_iconst (v := 1) hx hb dL_boxes_15 (by decide) ?_
  exact W.iret hx hb hr (fun t ht _ => ⟨(some (.int 1)), _, rfl, ⟨rfl, rfl⟩, by rw [ht]; exact hP, hD, hS.F ht⟩) (fun q z => hS.2.2 q z) dL_boxes_16
set_option maxHeartbeats 4000000 in
set_option maxRecDepth 100000 in
theorem l_c_put_n {l : Launch} {s0 : State} {a0 : Array Value} {dC : Nat → ClassId} {dI : Nat → Nat → Nat} {cA : Nat → ClassId} (h : xC l s0 a0 dC dI cA) (b gr br : Nat) (wr ca : Int32) (ro pl : Nat) (z1 z2 z3 p1 p2 p3 p4 : Int32) (f : Nat → Option Nat) (lk : Nat) (lf : Nat → Int64) (sz : Nat) (hm : z1 = 0 ∨ z1 = 1) (ht : ¬ z1 = 0) (hp : ¬ p1 = 0) (h0 : ¬ p2 < 0) (h1 : p2 < z3) (hi : vp_in p2 19) (hw : p3 &&& 3 = 0) : Met l yL_put [Cond.codeWith yL_put cL_put 7 (some .int) [(0, 14, 17, 13), (0, 14, 21, 15), (0, 14, 25, 44)]] ({ frames := 5, cells := 0, slots := 0, locals := 190 } : Room) (xPM s0 (dC, dI) [.ref b, .int p1, .int p2, .int p3, .int p4, .ref lk] [(br, .inr (1, [.ref pl, .int z1, .int z2, .int z3]))] [(lk, .inl (cA 1, 1, .inr (.inl lf))), (b, .inr (5, [.ref ro, .ref gr, .ref br, .int wr, .int ca])), (pl, .inl (cA 8, 19, .inr (.inr (.inr (.inr f)))))] sz) (xQM (dC, dI) (va_A [(lk, .inl (cA 1, 1, .inr (.inl lf))), (b, .inr (5, [.ref ro, .ref gr, .ref br, .int wr, .int ca])), (pl, .inl (cA 8, 19, .inr (.inr (.inr (.inr f)))))] sz) (fun r w1 => r = some (.int 0) ∧ w1 = [(lk, .inl (cA 1, 1, .inr (.inl (vp_updL lf 0 ((ca + 1).toInt64))))), (b, .inr (5, [.ref ro, .ref gr, .ref br, .int wr, .int (ca + 1)])), (pl, .inl (cA 8, 19, .inr (.inr (.inr (.inr (va_up f p2.toNatClampNeg none))))))])) 0 0 (va_A [(lk, .inl (cA 1, 1, .inr (.inl lf))), (b, .inr (5, [.ref ro, .ref gr, .ref br, .int wr, .int ca])), (pl, .inl (cA 8, 19, .inr (.inr (.inr (.inr f)))))] sz) := by
  refine va_MetW (cc := cL_put) (maxL := 7) (ret := (some .int)) (hh := [(0, 14, 17, 13), (0, 14, 21, 15), (0, 14, 25, 44)]) (by decide) rfl ?_
  intro p e s m args below meth c s₁ B hml hv
  obtain ⟨rfl, rfl, hb0, hPr, hP, hD0⟩ := hv
  have hx := B.exec
  have hb := B.bytes
  have hr := B.returns
  have hown : s.vm.findClass RL = some m.cls := findClass_of_methodNamed B.named
  have hlocks := B.notSynchronized
  have hK := h.K hb0
  have htab : c.exceptionTable.toList = [⟨0, 14, 17, 13⟩, ⟨0, 14, 21, 15⟩, ⟨0, 14, 25, 44⟩] := xtab (k_355 (args := #[]) h hb0) B.named B.method (Stand.of_body B).code
  have hS : va_S (va_A [(lk, .inl (cA 1, 1, .inr (.inl lf))), (b, .inr (5, [.ref ro, .ref gr, .ref br, .int wr, .int ca])), (pl, .inl (cA 8, 19, .inr (.inr (.inr (.inr f)))))] s.heap.size) s.heap s.heap [] := va_S.rf
  obtain ⟨A, hAe, hD, hA, hz, hRo, hwk, hnR⟩ := xM_start hb0 hPr hP hD0
  rw [hAe] at hS ⊢
  have hl := lv_entry ([.ref b, .int p1, .int p2, .int p3, .int p4, .ref lk]) (n := 7) (Nat.le_of_ble_eq_true rfl)
  rw [lg_entry_eq]
  generalize (lg_sl ([.ref b, .int p1, .int p2, .int p3, .int p4, .ref lk]) ++ List.replicate (7 - (lg_sl ([.ref b, .int p1, .int p2, .int p3, .int p4, .ref lk])).length) Slot.unset).toArray = ls at hl ⊢
  have hl : lv_has ls 7 [(0, .ref b), (1, .int p1), (2, .int p2), (3, .int p3), (4, .int p4), (5, .ref lk)] := hl
  refine lv_aload hx hb dL_put_0 (lv_at hl 5 rfl) ?_
  refine lv_iconst (v := 0) hx hb dL_put_2 (by decide) ?_
  refine lv_aload_n hx hb dL_put_3 rfl (lv_at hl 0 rfl) ?_
  refine lv_iload_n hx hb dL_put_4 rfl (lv_at hl 1 rfl) ?_
  refine lv_iload_n hx hb dL_put_5 rfl (lv_at hl 2 rfl) ?_
  refine lv_iload_n hx hb dL_put_6 rfl (lv_at hl 3 rfl) ?_
  refine lv_iload hx hb dL_put_7 (lv_at hl 4 rfl) ?_
  refine xm_of (wc := [(b, .inr (5, [.ref ro, .ref gr, .ref br, .int wr, .int ca])), (pl, .inl (cA 8, 19, .inr (.inr (.inr (.inr f)))))]) (wo := [(lk, .inl (cA 1, 1, .inr (.inl lf)))]) (va_runV (As := [.int p1, .int p2, .int p3, .int p4]) (rest := [.int 0, .ref lk]) ⟨hx, hb, hml, hown, xTs⟩ (c_put_n h b gr br wr ca ro pl z1 z2 z3 p1 p2 p3 p4 f _ hm ht hp h0 h1 hi hw) ⟨xB (n := 4) (k_360 h hb0) (k_1 h hb0) (k_357 h hb0) (by decide) rfl rfl rfl (by decide) (by decide), (k_358 h hb0), (k_359 h hb0)⟩ (xpMV (wr := [(br, .inr (1, [.ref pl, .int z1, .int z2, .int z3]))]) (wc := [(b, .inr (5, [.ref ro, .ref gr, .ref br, .int wr, .int ca])), (pl, .inl (cA 8, 19, .inr (.inr (.inr (.inr f)))))]) hb0 hS hz (va_P.sub (hRo _ _ hS) [0] rfl) (va_P.sub hP [1, 2] rfl) (va_D.sub (xDD (xDl hD0) hD hz hnR) [0, 2, 3] rfl rfl) (va_recv hK hP (ci := 5) (q0 := 1) rfl rfl)) rfl rfl hl.1 rfl (lv_room (Nat.le_of_ble_eq_true rfl)) dL_put_9 ⟨(Nat.le_of_ble_eq_true rfl), (Nat.le_of_ble_eq_true rfl)⟩) hP hD hS hA [1, 2] [0] rfl rfl rfl (by decide) (fun r w1 H locs hΦ hP hD hS => ?_)
  obtain ⟨rfl, rfl⟩ := hΦ
  have hP : va_P (dC, dI) vwCl [(lk, .inl (cA 1, 1, .inr (.inl lf))), (b, .inr (5, [.ref ro, .ref gr, .ref br, .int wr, .int (ca + 1)])), (pl, .inl (cA 8, 19, .inr (.inr (.inr (.inr (va_up f p2.toNatClampNeg none))))))] H := hP
  have hD : va_D A [(lk, .inl (cA 1, 1, .inr (.inl lf))), (b, .inr (5, [.ref ro, .ref gr, .ref br, .int wr, .int (ca + 1)])), (pl, .inl (cA 8, 19, .inr (.inr (.inr (.inr (va_up f p2.toNatClampNeg none))))))] := hD
  refine lv_i2l hx hb dL_put_12 rfl ?_
  refine va_last hx hb hK hP hD hS 0 1 rfl rfl xin0 dL_put_13 (fun H locs hP hD hS => ?_)
  have hP : va_P (dC, dI) vwCl [(lk, .inl (cA 1, 1, .inr (.inl (vp_updL lf (0 : Int32).toNatClampNeg ((ca + 1).toInt64))))), (b, .inr (5, [.ref ro, .ref gr, .ref br, .int wr, .int (ca + 1)])), (pl, .inl (cA 8, 19, .inr (.inr (.inr (.inr (va_up f p2.toNatClampNeg none))))))] H := hP
  have hD : va_D A [(lk, .inl (cA 1, 1, .inr (.inl (vp_updL lf (0 : Int32).toNatClampNeg ((ca + 1).toInt64))))), (b, .inr (5, [.ref ro, .ref gr, .ref br, .int wr, .int (ca + 1)])), (pl, .inl (cA 8, 19, .inr (.inr (.inr (.inr (va_up f p2.toNatClampNeg none))))))] := hD
  refine lv_goto (tgt := 29) hx hb dL_put_14 (by decide) ?_
  refine lv_iconst (v := 0) hx hb dL_put_29 (by decide) ?_
  exact W.iret hx hb hr (fun t ht _ => ⟨(some (.int 0)), _, rfl, ⟨rfl, rfl⟩, by rw [ht]; exact hP, hD, hS.F ht⟩) (fun q z => hS.2.2 q z) dL_put_30
set_option maxHeartbeats 4000000 in
set_option maxRecDepth 100000 in
theorem l_c_put_f {l : Launch} {s0 : State} {a0 : Array Value} {dC : Nat → ClassId} {dI : Nat → Nat → Nat} {cA : Nat → ClassId} (h : xC l s0 a0 dC dI cA) (b gr br : Nat) (wr ca : Int32) (ro pl : Nat) (z1 z2 z3 p1 p2 p3 p4 : Int32) (f : Nat → Option Nat) (lk : Nat) (lf : Nat → Int64) (sz : Nat) (hm : z1 = 0 ∨ z1 = 1) (ht : ¬ z1 = 0) (hp : ¬ p1 = 0) (h0 : ¬ p2 < 0) (h1 : p2 < z3) (hi : vp_in p2 19) (hw : p3 &&& 3 = 1) (hd : z2 = 0) : Met l yL_put [Cond.codeWith yL_put cL_put 7 (some .int) [(0, 14, 17, 13), (0, 14, 21, 15), (0, 14, 25, 44)]] ({ frames := 5, cells := 1, slots := 1, locals := 190 } : Room) (xPM s0 (dC, dI) [.ref b, .int p1, .int p2, .int p3, .int p4, .ref lk] [(br, .inr (1, [.ref pl, .int z1, .int z2, .int z3]))] [(lk, .inl (cA 1, 1, .inr (.inl lf))), (b, .inr (5, [.ref ro, .ref gr, .ref br, .int wr, .int ca])), (pl, .inl (cA 8, 19, .inr (.inr (.inr (.inr f)))))] sz) (xQM (dC, dI) (va_A [(lk, .inl (cA 1, 1, .inr (.inl lf))), (b, .inr (5, [.ref ro, .ref gr, .ref br, .int wr, .int ca])), (pl, .inl (cA 8, 19, .inr (.inr (.inr (.inr f)))))] sz) (fun r w1 => ∃ q : Nat, r = some (.int 0) ∧ w1 = [(lk, .inl (cA 1, 1, .inr (.inl (vp_updL lf 0 ((ca + 1).toInt64))))), (b, .inr (5, [.ref ro, .ref gr, .ref br, .int wr, .int (ca + 1)])), (pl, .inl (cA 8, 19, .inr (.inr (.inr (.inr (va_up f p2.toNatClampNeg (some q))))))), (q, .inr (0, [.int p4]))])) 1 1 (va_A [(lk, .inl (cA 1, 1, .inr (.inl lf))), (b, .inr (5, [.ref ro, .ref gr, .ref br, .int wr, .int ca])), (pl, .inl (cA 8, 19, .inr (.inr (.inr (.inr f)))))] sz) := by
  refine va_MetW (cc := cL_put) (maxL := 7) (ret := (some .int)) (hh := [(0, 14, 17, 13), (0, 14, 21, 15), (0, 14, 25, 44)]) (by decide) rfl ?_
  intro p e s m args below meth c s₁ B hml hv
  obtain ⟨rfl, rfl, hb0, hPr, hP, hD0⟩ := hv
  have hx := B.exec
  have hb := B.bytes
  have hr := B.returns
  have hown : s.vm.findClass RL = some m.cls := findClass_of_methodNamed B.named
  have hlocks := B.notSynchronized
  have hK := h.K hb0
  have htab : c.exceptionTable.toList = [⟨0, 14, 17, 13⟩, ⟨0, 14, 21, 15⟩, ⟨0, 14, 25, 44⟩] := xtab (k_355 (args := #[]) h hb0) B.named B.method (Stand.of_body B).code
  have hS : va_S (va_A [(lk, .inl (cA 1, 1, .inr (.inl lf))), (b, .inr (5, [.ref ro, .ref gr, .ref br, .int wr, .int ca])), (pl, .inl (cA 8, 19, .inr (.inr (.inr (.inr f)))))] s.heap.size) s.heap s.heap [] := va_S.rf
  obtain ⟨A, hAe, hD, hA, hz, hRo, hwk, hnR⟩ := xM_start hb0 hPr hP hD0
  rw [hAe] at hS ⊢
  have hl := lv_entry ([.ref b, .int p1, .int p2, .int p3, .int p4, .ref lk]) (n := 7) (Nat.le_of_ble_eq_true rfl)
  rw [lg_entry_eq]
  generalize (lg_sl ([.ref b, .int p1, .int p2, .int p3, .int p4, .ref lk]) ++ List.replicate (7 - (lg_sl ([.ref b, .int p1, .int p2, .int p3, .int p4, .ref lk])).length) Slot.unset).toArray = ls at hl ⊢
  have hl : lv_has ls 7 [(0, .ref b), (1, .int p1), (2, .int p2), (3, .int p3), (4, .int p4), (5, .ref lk)] := hl
  refine lv_aload hx hb dL_put_0 (lv_at hl 5 rfl) ?_
  refine lv_iconst (v := 0) hx hb dL_put_2 (by decide) ?_
  refine lv_aload_n hx hb dL_put_3 rfl (lv_at hl 0 rfl) ?_
  refine lv_iload_n hx hb dL_put_4 rfl (lv_at hl 1 rfl) ?_
  refine lv_iload_n hx hb dL_put_5 rfl (lv_at hl 2 rfl) ?_
  refine lv_iload_n hx hb dL_put_6 rfl (lv_at hl 3 rfl) ?_
  refine lv_iload hx hb dL_put_7 (lv_at hl 4 rfl) ?_
  refine xm_of (wc := [(b, .inr (5, [.ref ro, .ref gr, .ref br, .int wr, .int ca])), (pl, .inl (cA 8, 19, .inr (.inr (.inr (.inr f)))))]) (wo := [(lk, .inl (cA 1, 1, .inr (.inl lf)))]) (va_runV (As := [.int p1, .int p2, .int p3, .int p4]) (rest := [.int 0, .ref lk]) ⟨hx, hb, hml, hown, xTs⟩ (c_put_f h b gr br wr ca ro pl z1 z2 z3 p1 p2 p3 p4 f _ hm ht hp h0 h1 hi hw hd) ⟨xB (n := 4) (k_360 h hb0) (k_1 h hb0) (k_357 h hb0) (by decide) rfl rfl rfl (by decide) (by decide), (k_358 h hb0), (k_359 h hb0)⟩ (xpMV (wr := [(br, .inr (1, [.ref pl, .int z1, .int z2, .int z3]))]) (wc := [(b, .inr (5, [.ref ro, .ref gr, .ref br, .int wr, .int ca])), (pl, .inl (cA 8, 19, .inr (.inr (.inr (.inr f)))))]) hb0 hS hz (va_P.sub (hRo _ _ hS) [0] rfl) (va_P.sub hP [1, 2] rfl) (va_D.sub (xDD (xDl hD0) hD hz hnR) [0, 2, 3] rfl rfl) (va_recv hK hP (ci := 5) (q0 := 1) rfl rfl)) rfl rfl hl.1 rfl (lv_room (Nat.le_of_ble_eq_true rfl)) dL_put_9 ⟨(Nat.le_of_ble_eq_true rfl), (Nat.le_of_ble_eq_true rfl)⟩) hP hD hS hA [1, 2] [0] rfl rfl rfl (by decide) (fun r w1 H locs hΦ hP hD hS => ?_)
  obtain ⟨q, rfl, rfl⟩ := hΦ
  have hP : va_P (dC, dI) vwCl [(lk, .inl (cA 1, 1, .inr (.inl lf))), (b, .inr (5, [.ref ro, .ref gr, .ref br, .int wr, .int (ca + 1)])), (pl, .inl (cA 8, 19, .inr (.inr (.inr (.inr (va_up f p2.toNatClampNeg (some q))))))), (q, .inr (0, [.int p4]))] H := hP
  have hD : va_D A [(lk, .inl (cA 1, 1, .inr (.inl lf))), (b, .inr (5, [.ref ro, .ref gr, .ref br, .int wr, .int (ca + 1)])), (pl, .inl (cA 8, 19, .inr (.inr (.inr (.inr (va_up f p2.toNatClampNeg (some q))))))), (q, .inr (0, [.int p4]))] := hD
  refine lv_i2l hx hb dL_put_12 rfl ?_
  refine va_last hx hb hK hP hD hS 0 1 rfl rfl xin0 dL_put_13 (fun H locs hP hD hS => ?_)
  have hP : va_P (dC, dI) vwCl [(lk, .inl (cA 1, 1, .inr (.inl (vp_updL lf (0 : Int32).toNatClampNeg ((ca + 1).toInt64))))), (b, .inr (5, [.ref ro, .ref gr, .ref br, .int wr, .int (ca + 1)])), (pl, .inl (cA 8, 19, .inr (.inr (.inr (.inr (va_up f p2.toNatClampNeg (some q))))))), (q, .inr (0, [.int p4]))] H := hP
  have hD : va_D A [(lk, .inl (cA 1, 1, .inr (.inl (vp_updL lf (0 : Int32).toNatClampNeg ((ca + 1).toInt64))))), (b, .inr (5, [.ref ro, .ref gr, .ref br, .int wr, .int (ca + 1)])), (pl, .inl (cA 8, 19, .inr (.inr (.inr (.inr (va_up f p2.toNatClampNeg (some q))))))), (q, .inr (0, [.int p4]))] := hD
  refine lv_goto (tgt := 29) hx hb dL_put_14 (by decide) ?_
  refine lv_iconst (v := 0) hx hb dL_put_29 (by decide) ?_
  exact W.iret hx hb hr (fun t ht _ => ⟨(some (.int 0)), _, rfl, ⟨q, rfl, rfl⟩, by rw [ht]; exact hP, hD, hS.F ht⟩) (fun q z => hS.2.2 q z) dL_put_30
set_option maxHeartbeats 4000000 in
set_option maxRecDepth 100000 in
theorem l_c_put_d {l : Launch} {s0 : State} {a0 : Array Value} {dC : Nat → ClassId} {dI : Nat → Nat → Nat} {cA : Nat → ClassId} (h : xC l s0 a0 dC dI cA) (b gr br : Nat) (wr ca : Int32) (ro pl : Nat) (z1 z2 z3 p1 p2 p3 p4 : Int32) (f : Nat → Option Nat) (lk : Nat) (lf : Nat → Int64) (sz : Nat) (hm : z1 = 0 ∨ z1 = 1) (ht : ¬ z1 = 0) (hp : ¬ p1 = 0) (h0 : ¬ p2 < 0) (h1 : p2 < z3) (hi : vp_in p2 19) (hw : p3 &&& 3 = 2 ∨ p3 &&& 3 = 3) : Met l yL_put [Cond.codeWith yL_put cL_put 7 (some .int) [(0, 14, 17, 13), (0, 14, 21, 15), (0, 14, 25, 44)]] ({ frames := 5, cells := 1, slots := 1, locals := 190 } : Room) (xPM s0 (dC, dI) [.ref b, .int p1, .int p2, .int p3, .int p4, .ref lk] [(br, .inr (1, [.ref pl, .int z1, .int z2, .int z3]))] [(lk, .inl (cA 1, 1, .inr (.inl lf))), (b, .inr (5, [.ref ro, .ref gr, .ref br, .int wr, .int ca])), (pl, .inl (cA 8, 19, .inr (.inr (.inr (.inr f)))))] sz) (xQM (dC, dI) (va_A [(lk, .inl (cA 1, 1, .inr (.inl lf))), (b, .inr (5, [.ref ro, .ref gr, .ref br, .int wr, .int ca])), (pl, .inl (cA 8, 19, .inr (.inr (.inr (.inr f)))))] sz) (fun r w1 => ∃ q : Nat, r = some (.int 0) ∧ w1 = [(lk, .inl (cA 1, 1, .inr (.inl (vp_updL lf 0 ((ca + 1).toInt64))))), (b, .inr (5, [.ref ro, .ref gr, .ref br, .int wr, .int (ca + 1)])), (pl, .inl (cA 8, 19, .inr (.inr (.inr (.inr (va_up f p2.toNatClampNeg (some q))))))), (q, .inr (2, [.int p4]))])) 1 1 (va_A [(lk, .inl (cA 1, 1, .inr (.inl lf))), (b, .inr (5, [.ref ro, .ref gr, .ref br, .int wr, .int ca])), (pl, .inl (cA 8, 19, .inr (.inr (.inr (.inr f)))))] sz) := by
  refine va_MetW (cc := cL_put) (maxL := 7) (ret := (some .int)) (hh := [(0, 14, 17, 13), (0, 14, 21, 15), (0, 14, 25, 44)]) (by decide) rfl ?_
  intro p e s m args below meth c s₁ B hml hv
  obtain ⟨rfl, rfl, hb0, hPr, hP, hD0⟩ := hv
  have hx := B.exec
  have hb := B.bytes
  have hr := B.returns
  have hown : s.vm.findClass RL = some m.cls := findClass_of_methodNamed B.named
  have hlocks := B.notSynchronized
  have hK := h.K hb0
  have htab : c.exceptionTable.toList = [⟨0, 14, 17, 13⟩, ⟨0, 14, 21, 15⟩, ⟨0, 14, 25, 44⟩] := xtab (k_355 (args := #[]) h hb0) B.named B.method (Stand.of_body B).code
  have hS : va_S (va_A [(lk, .inl (cA 1, 1, .inr (.inl lf))), (b, .inr (5, [.ref ro, .ref gr, .ref br, .int wr, .int ca])), (pl, .inl (cA 8, 19, .inr (.inr (.inr (.inr f)))))] s.heap.size) s.heap s.heap [] := va_S.rf
  obtain ⟨A, hAe, hD, hA, hz, hRo, hwk, hnR⟩ := xM_start hb0 hPr hP hD0
  rw [hAe] at hS ⊢
  have hl := lv_entry ([.ref b, .int p1, .int p2, .int p3, .int p4, .ref lk]) (n := 7) (Nat.le_of_ble_eq_true rfl)
  rw [lg_entry_eq]
  generalize (lg_sl ([.ref b, .int p1, .int p2, .int p3, .int p4, .ref lk]) ++ List.replicate (7 - (lg_sl ([.ref b, .int p1, .int p2, .int p3, .int p4, .ref lk])).length) Slot.unset).toArray = ls at hl ⊢
  have hl : lv_has ls 7 [(0, .ref b), (1, .int p1), (2, .int p2), (3, .int p3), (4, .int p4), (5, .ref lk)] := hl
  refine lv_aload hx hb dL_put_0 (lv_at hl 5 rfl) ?_
  refine lv_iconst (v := 0) hx hb dL_put_2 (by decide) ?_
  refine lv_aload_n hx hb dL_put_3 rfl (lv_at hl 0 rfl) ?_
  refine lv_iload_n hx hb dL_put_4 rfl (lv_at hl 1 rfl) ?_
  refine lv_iload_n hx hb dL_put_5 rfl (lv_at hl 2 rfl) ?_
  refine lv_iload_n hx hb dL_put_6 rfl (lv_at hl 3 rfl) ?_
  refine lv_iload hx hb dL_put_7 (lv_at hl 4 rfl) ?_
  refine xm_of (wc := [(b, .inr (5, [.ref ro, .ref gr, .ref br, .int wr, .int ca])), (pl, .inl (cA 8, 19, .inr (.inr (.inr (.inr f)))))]) (wo := [(lk, .inl (cA 1, 1, .inr (.inl lf)))]) (va_runV (As := [.int p1, .int p2, .int p3, .int p4]) (rest := [.int 0, .ref lk]) ⟨hx, hb, hml, hown, xTs⟩ (c_put_d h b gr br wr ca ro pl z1 z2 z3 p1 p2 p3 p4 f _ hm ht hp h0 h1 hi hw) ⟨xB (n := 4) (k_360 h hb0) (k_1 h hb0) (k_357 h hb0) (by decide) rfl rfl rfl (by decide) (by decide), (k_358 h hb0), (k_359 h hb0)⟩ (xpMV (wr := [(br, .inr (1, [.ref pl, .int z1, .int z2, .int z3]))]) (wc := [(b, .inr (5, [.ref ro, .ref gr, .ref br, .int wr, .int ca])), (pl, .inl (cA 8, 19, .inr (.inr (.inr (.inr f)))))]) hb0 hS hz (va_P.sub (hRo _ _ hS) [0] rfl) (va_P.sub hP [1, 2] rfl) (va_D.sub (xDD (xDl hD0) hD hz hnR) [0, 2, 3] rfl rfl) (va_recv hK hP (ci := 5) (q0 := 1) rfl rfl)) rfl rfl hl.1 rfl (lv_room (Nat.le_of_ble_eq_true rfl)) dL_put_9 ⟨(Nat.le_of_ble_eq_true rfl), (Nat.le_of_ble_eq_true rfl)⟩) hP hD hS hA [1, 2] [0] rfl rfl rfl (by decide) (fun r w1 H locs hΦ hP hD hS => ?_)
  obtain ⟨q, rfl, rfl⟩ := hΦ
  have hP : va_P (dC, dI) vwCl [(lk, .inl (cA 1, 1, .inr (.inl lf))), (b, .inr (5, [.ref ro, .ref gr, .ref br, .int wr, .int (ca + 1)])), (pl, .inl (cA 8, 19, .inr (.inr (.inr (.inr (va_up f p2.toNatClampNeg (some q))))))), (q, .inr (2, [.int p4]))] H := hP
  have hD : va_D A [(lk, .inl (cA 1, 1, .inr (.inl lf))), (b, .inr (5, [.ref ro, .ref gr, .ref br, .int wr, .int (ca + 1)])), (pl, .inl (cA 8, 19, .inr (.inr (.inr (.inr (va_up f p2.toNatClampNeg (some q))))))), (q, .inr (2, [.int p4]))] := hD
  refine lv_i2l hx hb dL_put_12 rfl ?_
  refine va_last hx hb hK hP hD hS 0 1 rfl rfl xin0 dL_put_13 (fun H locs hP hD hS => ?_)
  have hP : va_P (dC, dI) vwCl [(lk, .inl (cA 1, 1, .inr (.inl (vp_updL lf (0 : Int32).toNatClampNeg ((ca + 1).toInt64))))), (b, .inr (5, [.ref ro, .ref gr, .ref br, .int wr, .int (ca + 1)])), (pl, .inl (cA 8, 19, .inr (.inr (.inr (.inr (va_up f p2.toNatClampNeg (some q))))))), (q, .inr (2, [.int p4]))] H := hP
  have hD : va_D A [(lk, .inl (cA 1, 1, .inr (.inl (vp_updL lf (0 : Int32).toNatClampNeg ((ca + 1).toInt64))))), (b, .inr (5, [.ref ro, .ref gr, .ref br, .int wr, .int (ca + 1)])), (pl, .inl (cA 8, 19, .inr (.inr (.inr (.inr (va_up f p2.toNatClampNeg (some q))))))), (q, .inr (2, [.int p4]))] := hD
  refine lv_goto (tgt := 29) hx hb dL_put_14 (by decide) ?_
  refine lv_iconst (v := 0) hx hb dL_put_29 (by decide) ?_
  exact W.iret hx hb hr (fun t ht _ => ⟨(some (.int 0)), _, rfl, ⟨q, rfl, rfl⟩, by rw [ht]; exact hP, hD, hS.F ht⟩) (fun q z => hS.2.2 q z) dL_put_30
set_option maxHeartbeats 4000000 in
set_option maxRecDepth 100000 in
theorem l_t_put_1 {l : Launch} {s0 : State} {a0 : Array Value} {dC : Nat → ClassId} {dI : Nat → Nat → Nat} {cA : Nat → ClassId} (h : xC l s0 a0 dC dI cA) (b gr br : Nat) (wr ca : Int32) (ro pl : Nat) (z1 z2 z3 p1 p2 p3 p4 : Int32) (f : Nat → Option Nat) (lk : Nat) (lf : Nat → Int64) (sz : Nat) (hm : z1 = 0 ∨ z1 = 1) (ht : z1 = 0) : Met l yL_put [Cond.codeWith yL_put cL_put 7 (some .int) [(0, 14, 17, 13), (0, 14, 21, 15), (0, 14, 25, 44)]] ({ frames := 9, cells := 1, slots := 8, locals := 170 } : Room) (xPM s0 (dC, dI) [.ref b, .int p1, .int p2, .int p3, .int p4, .ref lk] [(b, .inr (5, [.ref ro, .ref gr, .ref br, .int wr, .int ca])), (br, .inr (1, [.ref pl, .int z1, .int z2, .int z3]))] [(lk, .inl (cA 1, 1, .inr (.inl lf)))] sz) (xQM (dC, dI) (va_A [(lk, .inl (cA 1, 1, .inr (.inl lf)))] sz) (fun r w1 => r = some (.int 1) ∧ w1 = [(lk, .inl (cA 1, 1, .inr (.inl lf)))])) 1 8 (va_A [(lk, .inl (cA 1, 1, .inr (.inl lf)))] sz) := by
  refine va_MetW (cc := cL_put) (maxL := 7) (ret := (some .int)) (hh := [(0, 14, 17, 13), (0, 14, 21, 15), (0, 14, 25, 44)]) (by decide) rfl ?_
  intro p e s m args below meth c s₁ B hml hv
  obtain ⟨rfl, rfl, hb0, hPr, hP, hD0⟩ := hv
  have hx := B.exec
  have hb := B.bytes
  have hr := B.returns
  have hown : s.vm.findClass RL = some m.cls := findClass_of_methodNamed B.named
  have hlocks := B.notSynchronized
  have hK := h.K hb0
  have htab : c.exceptionTable.toList = [⟨0, 14, 17, 13⟩, ⟨0, 14, 21, 15⟩, ⟨0, 14, 25, 44⟩] := xtab (k_355 (args := #[]) h hb0) B.named B.method (Stand.of_body B).code
  have hS : va_S (va_A [(lk, .inl (cA 1, 1, .inr (.inl lf)))] s.heap.size) s.heap s.heap [] := va_S.rf
  obtain ⟨A, hAe, hD, hA, hz, hRo, hwk, hnR⟩ := xM_start hb0 hPr hP hD0
  rw [hAe] at hS ⊢
  have hl := lv_entry ([.ref b, .int p1, .int p2, .int p3, .int p4, .ref lk]) (n := 7) (Nat.le_of_ble_eq_true rfl)
  rw [lg_entry_eq]
  generalize (lg_sl ([.ref b, .int p1, .int p2, .int p3, .int p4, .ref lk]) ++ List.replicate (7 - (lg_sl ([.ref b, .int p1, .int p2, .int p3, .int p4, .ref lk])).length) Slot.unset).toArray = ls at hl ⊢
  have hl : lv_has ls 7 [(0, .ref b), (1, .int p1), (2, .int p2), (3, .int p3), (4, .int p4), (5, .ref lk)] := hl
  refine lv_aload hx hb dL_put_0 (lv_at hl 5 rfl) ?_
  refine lv_iconst (v := 0) hx hb dL_put_2 (by decide) ?_
  refine lv_aload_n hx hb dL_put_3 rfl (lv_at hl 0 rfl) ?_
  refine lv_iload_n hx hb dL_put_4 rfl (lv_at hl 1 rfl) ?_
  refine lv_iload_n hx hb dL_put_5 rfl (lv_at hl 2 rfl) ?_
  refine lv_iload_n hx hb dL_put_6 rfl (lv_at hl 3 rfl) ?_
  refine lv_iload hx hb dL_put_7 (lv_at hl 4 rfl) ?_
  refine xt_callV (As := [.int p1, .int p2, .int p3, .int p4]) (rest := [.int 0, .ref lk]) ⟨hx, hb, hml, hown, xTs⟩ (t_put_1 h b gr br wr ca ro pl z1 z2 z3 p1 p2 p3 p4 f hm ht) ⟨xB (n := 4) (k_360 h hb0) (k_1 h hb0) (k_357 h hb0) (by decide) rfl rfl rfl (by decide) (by decide), (k_358 h hb0), (k_359 h hb0)⟩ (xpV hb0 hS hz (va_P.sub (hRo _ _ hS) [0, 1] rfl) (va_recv hK (hRo _ _ hS) (ci := 5) (q0 := 0) rfl rfl)) rfl rfl hl.1 rfl (lv_room (Nat.le_of_ble_eq_true rfl)) dL_put_9 ⟨(Nat.le_of_ble_eq_true rfl), (Nat.le_of_ble_eq_true rfl)⟩ (fun q ce H h1 h2 h3 h4 h5 => ?_)
  refine xt_catch hown [] ⟨0, 14, 17, 13⟩ [⟨0, 14, 21, 15⟩, ⟨0, 14, 25, 44⟩] htab xnone rfl (by decide) (k_129 h hb0) (k_143 h hb0) h1 h2 h3 ?_
  have hP := xgrow hP h5
  have hS := xgrowS hS h4 h5
  show W _ _ _ _ _ _ _ _ _ _ _ _ _ _ _ (F0 m 17 ls [.ref q])
  refine lv_astore (lv' := [(6, .ref q), (0, .ref b), (1, .int p1), (2, .int p2), (3, .int p3), (4, .int p4), (5, .ref lk)]) hx hb dL_put_17 hl (by decide) rfl (fun ls hl => ?_)
  refine lv_iconst (v := 1) hx hb dL_put_19 (by decide) ?_
  exact W.iret hx hb hr (fun t ht _ => ⟨(some (.int 1)), _, rfl, ⟨rfl, rfl⟩, by rw [ht]; exact hP, hD, hS.F ht⟩) (fun q z => hS.2.2 q z) dL_put_20
set_option maxHeartbeats 4000000 in
set_option maxRecDepth 100000 in
theorem l_t_put_2 {l : Launch} {s0 : State} {a0 : Array Value} {dC : Nat → ClassId} {dI : Nat → Nat → Nat} {cA : Nat → ClassId} (h : xC l s0 a0 dC dI cA) (b gr br : Nat) (wr ca : Int32) (ro pl : Nat) (z1 z2 z3 p1 p2 p3 p4 : Int32) (f : Nat → Option Nat) (lk : Nat) (lf : Nat → Int64) (sz : Nat) (hm : z1 = 0 ∨ z1 = 1) (ht : ¬ z1 = 0) (hp : p1 = 0) : Met l yL_put [Cond.codeWith yL_put cL_put 7 (some .int) [(0, 14, 17, 13), (0, 14, 21, 15), (0, 14, 25, 44)]] ({ frames := 9, cells := 1, slots := 8, locals := 170 } : Room) (xPM s0 (dC, dI) [.ref b, .int p1, .int p2, .int p3, .int p4, .ref lk] [(b, .inr (5, [.ref ro, .ref gr, .ref br, .int wr, .int ca])), (br, .inr (1, [.ref pl, .int z1, .int z2, .int z3]))] [(lk, .inl (cA 1, 1, .inr (.inl lf)))] sz) (xQM (dC, dI) (va_A [(lk, .inl (cA 1, 1, .inr (.inl lf)))] sz) (fun r w1 => r = some (.int 1) ∧ w1 = [(lk, .inl (cA 1, 1, .inr (.inl lf)))])) 1 8 (va_A [(lk, .inl (cA 1, 1, .inr (.inl lf)))] sz) := by
  refine va_MetW (cc := cL_put) (maxL := 7) (ret := (some .int)) (hh := [(0, 14, 17, 13), (0, 14, 21, 15), (0, 14, 25, 44)]) (by decide) rfl ?_
  intro p e s m args below meth c s₁ B hml hv
  obtain ⟨rfl, rfl, hb0, hPr, hP, hD0⟩ := hv
  have hx := B.exec
  have hb := B.bytes
  have hr := B.returns
  have hown : s.vm.findClass RL = some m.cls := findClass_of_methodNamed B.named
  have hlocks := B.notSynchronized
  have hK := h.K hb0
  have htab : c.exceptionTable.toList = [⟨0, 14, 17, 13⟩, ⟨0, 14, 21, 15⟩, ⟨0, 14, 25, 44⟩] := xtab (k_355 (args := #[]) h hb0) B.named B.method (Stand.of_body B).code
  have hS : va_S (va_A [(lk, .inl (cA 1, 1, .inr (.inl lf)))] s.heap.size) s.heap s.heap [] := va_S.rf
  obtain ⟨A, hAe, hD, hA, hz, hRo, hwk, hnR⟩ := xM_start hb0 hPr hP hD0
  rw [hAe] at hS ⊢
  have hl := lv_entry ([.ref b, .int p1, .int p2, .int p3, .int p4, .ref lk]) (n := 7) (Nat.le_of_ble_eq_true rfl)
  rw [lg_entry_eq]
  generalize (lg_sl ([.ref b, .int p1, .int p2, .int p3, .int p4, .ref lk]) ++ List.replicate (7 - (lg_sl ([.ref b, .int p1, .int p2, .int p3, .int p4, .ref lk])).length) Slot.unset).toArray = ls at hl ⊢
  have hl : lv_has ls 7 [(0, .ref b), (1, .int p1), (2, .int p2), (3, .int p3), (4, .int p4), (5, .ref lk)] := hl
  refine lv_aload hx hb dL_put_0 (lv_at hl 5 rfl) ?_
  refine lv_iconst (v := 0) hx hb dL_put_2 (by decide) ?_
  refine lv_aload_n hx hb dL_put_3 rfl (lv_at hl 0 rfl) ?_
  refine lv_iload_n hx hb dL_put_4 rfl (lv_at hl 1 rfl) ?_
  refine lv_iload_n hx hb dL_put_5 rfl (lv_at hl 2 rfl) ?_
  refine lv_iload_n hx hb dL_put_6 rfl (lv_at hl 3 rfl) ?_
  refine lv_iload hx hb dL_put_7 (lv_at hl 4 rfl) ?_
  refine xt_callV (As := [.int p1, .int p2, .int p3, .int p4]) (rest := [.int 0, .ref lk]) ⟨hx, hb, hml, hown, xTs⟩ (t_put_2 h b gr br wr ca ro pl z1 z2 z3 p1 p2 p3 p4 f hm ht hp) ⟨xB (n := 4) (k_360 h hb0) (k_1 h hb0) (k_357 h hb0) (by decide) rfl rfl rfl (by decide) (by decide), (k_358 h hb0), (k_359 h hb0)⟩ (xpV hb0 hS hz (va_P.sub (hRo _ _ hS) [0, 1] rfl) (va_recv hK (hRo _ _ hS) (ci := 5) (q0 := 0) rfl rfl)) rfl rfl hl.1 rfl (lv_room (Nat.le_of_ble_eq_true rfl)) dL_put_9 ⟨(Nat.le_of_ble_eq_true rfl), (Nat.le_of_ble_eq_true rfl)⟩ (fun q ce H h1 h2 h3 h4 h5 => ?_)
  refine xt_catch hown [] ⟨0, 14, 17, 13⟩ [⟨0, 14, 21, 15⟩, ⟨0, 14, 25, 44⟩] htab xnone rfl (by decide) (k_129 h hb0) (k_143 h hb0) h1 h2 h3 ?_
  have hP := xgrow hP h5
  have hS := xgrowS hS h4 h5
  show W _ _ _ _ _ _ _ _ _ _ _ _ _ _ _ (F0 m 17 ls [.ref q])
  refine lv_astore (lv' := [(6, .ref q), (0, .ref b), (1, .int p1), (2, .int p2), (3, .int p3), (4, .int p4), (5, .ref lk)]) hx hb dL_put_17 hl (by decide) rfl (fun ls hl => ?_)
  refine lv_iconst (v := 1) hx hb dL_put_19 (by decide) ?_
  exact W.iret hx hb hr (fun t ht _ => ⟨(some (.int 1)), _, rfl, ⟨rfl, rfl⟩, by rw [ht]; exact hP, hD, hS.F ht⟩) (fun q z => hS.2.2 q z) dL_put_20
set_option maxHeartbeats 4000000 in
set_option maxRecDepth 100000 in
theorem l_t_put_A {l : Launch} {s0 : State} {a0 : Array Value} {dC : Nat → ClassId} {dI : Nat → Nat → Nat} {cA : Nat → ClassId} (h : xC l s0 a0 dC dI cA) (b gr br : Nat) (wr ca : Int32) (ro pl : Nat) (z1 z2 z3 p1 p2 p3 p4 : Int32) (f : Nat → Option Nat) (lk : Nat) (lf : Nat → Int64) (sz : Nat) (hm : z1 = 0 ∨ z1 = 1) (ht : ¬ z1 = 0) (hp : ¬ p1 = 0) (hc : p2 < 0 ∨ ¬ p2 < z3) : Met l yL_put [Cond.codeWith yL_put cL_put 7 (some .int) [(0, 14, 17, 13), (0, 14, 21, 15), (0, 14, 25, 44)]] ({ frames := 9, cells := 1, slots := 8, locals := 170 } : Room) (xPM s0 (dC, dI) [.ref b, .int p1, .int p2, .int p3, .int p4, .ref lk] [(b, .inr (5, [.ref ro, .ref gr, .ref br, .int wr, .int ca])), (br, .inr (1, [.ref pl, .int z1, .int z2, .int z3]))] [(lk, .inl (cA 1, 1, .inr (.inl lf)))] sz) (xQM (dC, dI) (va_A [(lk, .inl (cA 1, 1, .inr (.inl lf)))] sz) (fun r w1 => r = some (.int 2) ∧ w1 = [(lk, .inl (cA 1, 1, .inr (.inl lf)))])) 1 8 (va_A [(lk, .inl (cA 1, 1, .inr (.inl lf)))] sz) := by
  refine va_MetW (cc := cL_put) (maxL := 7) (ret := (some .int)) (hh := [(0, 14, 17, 13), (0, 14, 21, 15), (0, 14, 25, 44)]) (by decide) rfl ?_
  intro p e s m args below meth c s₁ B hml hv
  obtain ⟨rfl, rfl, hb0, hPr, hP, hD0⟩ := hv
  have hx := B.exec
  have hb := B.bytes
  have hr := B.returns
  have hown : s.vm.findClass RL = some m.cls := findClass_of_methodNamed B.named
  have hlocks := B.notSynchronized
  have hK := h.K hb0
  have htab : c.exceptionTable.toList = [⟨0, 14, 17, 13⟩, ⟨0, 14, 21, 15⟩, ⟨0, 14, 25, 44⟩] := xtab (k_355 (args := #[]) h hb0) B.named B.method (Stand.of_body B).code
  have hS : va_S (va_A [(lk, .inl (cA 1, 1, .inr (.inl lf)))] s.heap.size) s.heap s.heap [] := va_S.rf
  obtain ⟨A, hAe, hD, hA, hz, hRo, hwk, hnR⟩ := xM_start hb0 hPr hP hD0
  rw [hAe] at hS ⊢
  have hl := lv_entry ([.ref b, .int p1, .int p2, .int p3, .int p4, .ref lk]) (n := 7) (Nat.le_of_ble_eq_true rfl)
  rw [lg_entry_eq]
  generalize (lg_sl ([.ref b, .int p1, .int p2, .int p3, .int p4, .ref lk]) ++ List.replicate (7 - (lg_sl ([.ref b, .int p1, .int p2, .int p3, .int p4, .ref lk])).length) Slot.unset).toArray = ls at hl ⊢
  have hl : lv_has ls 7 [(0, .ref b), (1, .int p1), (2, .int p2), (3, .int p3), (4, .int p4), (5, .ref lk)] := hl
  refine lv_aload hx hb dL_put_0 (lv_at hl 5 rfl) ?_
  refine lv_iconst (v := 0) hx hb dL_put_2 (by decide) ?_
  refine lv_aload_n hx hb dL_put_3 rfl (lv_at hl 0 rfl) ?_
  refine lv_iload_n hx hb dL_put_4 rfl (lv_at hl 1 rfl) ?_
  refine lv_iload_n hx hb dL_put_5 rfl (lv_at hl 2 rfl) ?_
  refine lv_iload_n hx hb dL_put_6 rfl (lv_at hl 3 rfl) ?_
  refine lv_iload hx hb dL_put_7 (lv_at hl 4 rfl) ?_
  refine xt_callV (As := [.int p1, .int p2, .int p3, .int p4]) (rest := [.int 0, .ref lk]) ⟨hx, hb, hml, hown, xTs⟩ (t_put_A h b gr br wr ca ro pl z1 z2 z3 p1 p2 p3 p4 f hm ht hp hc) ⟨xB (n := 4) (k_360 h hb0) (k_1 h hb0) (k_357 h hb0) (by decide) rfl rfl rfl (by decide) (by decide), (k_358 h hb0), (k_359 h hb0)⟩ (xpV hb0 hS hz (va_P.sub (hRo _ _ hS) [0, 1] rfl) (va_recv hK (hRo _ _ hS) (ci := 5) (q0 := 0) rfl rfl)) rfl rfl hl.1 rfl (lv_room (Nat.le_of_ble_eq_true rfl)) dL_put_9 ⟨(Nat.le_of_ble_eq_true rfl), (Nat.le_of_ble_eq_true rfl)⟩ (fun q ce H h1 h2 h3 h4 h5 => ?_)
  refine xt_catch hown [⟨0, 14, 17, 13⟩] ⟨0, 14, 21, 15⟩ [⟨0, 14, 25, 44⟩] htab (fun z hz2 => by rw [List.mem_singleton] at hz2; rw [hz2]; exact ⟨rfl, by decide, _, k_129 h hb0, nc_IN h hb0⟩) rfl (by decide) (k_130 h hb0) (k_235 h hb0) h1 h2 h3 ?_
  have hP := xgrow hP h5
  have hS := xgrowS hS h4 h5
  show W _ _ _ _ _ _ _ _ _ _ _ _ _ _ _ (F0 m 21 ls [.ref q])
  refine lv_astore (lv' := [(6, .ref q), (0, .ref b), (1, .int p1), (2, .int p2), (3, .int p3), (4, .int p4), (5, .ref lk)]) hx hb dL_put_21 hl (by decide) rfl (fun ls hl => ?_)
  refine lv_iconst (v := 2) hx hb dL_put_23 (by decide) ?_
  exact W.iret hx hb hr (fun t ht _ => ⟨(some (.int 2)), _, rfl, ⟨rfl, rfl⟩, by rw [ht]; exact hP, hD, hS.F ht⟩) (fun q z => hS.2.2 q z) dL_put_24
set_option maxHeartbeats 4000000 in
set_option maxRecDepth 100000 in
theorem l_t_put_S {l : Launch} {s0 : State} {a0 : Array Value} {dC : Nat → ClassId} {dI : Nat → Nat → Nat} {cA : Nat → ClassId} (h : xC l s0 a0 dC dI cA) (b gr br : Nat) (wr ca : Int32) (ro pl : Nat) (z1 z2 z3 p1 p2 p3 p4 : Int32) (f : Nat → Option Nat) (lk : Nat) (lf : Nat → Int64) (sz : Nat) (hm : z1 = 0 ∨ z1 = 1) (ht : ¬ z1 = 0) (hp : ¬ p1 = 0) (h0 : ¬ p2 < 0) (h1 : p2 < z3) (hi : vp_in p2 19) (hw : p3 &&& 3 = 1) (hd : ¬ z2 = 0) : Met l yL_put [Cond.codeWith yL_put cL_put 7 (some .int) [(0, 14, 17, 13), (0, 14, 21, 15), (0, 14, 25, 44)]] ({ frames := 9, cells := 2, slots := 9, locals := 210 } : Room) (xPM s0 (dC, dI) [.ref b, .int p1, .int p2, .int p3, .int p4, .ref lk] [(b, .inr (5, [.ref ro, .ref gr, .ref br, .int wr, .int ca])), (br, .inr (1, [.ref pl, .int z1, .int z2, .int z3]))] [(lk, .inl (cA 1, 1, .inr (.inl lf)))] sz) (xQM (dC, dI) (va_A [(lk, .inl (cA 1, 1, .inr (.inl lf)))] sz) (fun r w1 => r = some (.int 3) ∧ w1 = [(lk, .inl (cA 1, 1, .inr (.inl lf)))])) 2 9 (va_A [(lk, .inl (cA 1, 1, .inr (.inl lf)))] sz) := by
  refine va_MetW (cc := cL_put) (maxL := 7) (ret := (some .int)) (hh := [(0, 14, 17, 13), (0, 14, 21, 15), (0, 14, 25, 44)]) (by decide) rfl ?_
  intro p e s m args below meth c s₁ B hml hv
  obtain ⟨rfl, rfl, hb0, hPr, hP, hD0⟩ := hv
  have hx := B.exec
  have hb := B.bytes
  have hr := B.returns
  have hown : s.vm.findClass RL = some m.cls := findClass_of_methodNamed B.named
  have hlocks := B.notSynchronized
  have hK := h.K hb0
  have htab : c.exceptionTable.toList = [⟨0, 14, 17, 13⟩, ⟨0, 14, 21, 15⟩, ⟨0, 14, 25, 44⟩] := xtab (k_355 (args := #[]) h hb0) B.named B.method (Stand.of_body B).code
  have hS : va_S (va_A [(lk, .inl (cA 1, 1, .inr (.inl lf)))] s.heap.size) s.heap s.heap [] := va_S.rf
  obtain ⟨A, hAe, hD, hA, hz, hRo, hwk, hnR⟩ := xM_start hb0 hPr hP hD0
  rw [hAe] at hS ⊢
  have hl := lv_entry ([.ref b, .int p1, .int p2, .int p3, .int p4, .ref lk]) (n := 7) (Nat.le_of_ble_eq_true rfl)
  rw [lg_entry_eq]
  generalize (lg_sl ([.ref b, .int p1, .int p2, .int p3, .int p4, .ref lk]) ++ List.replicate (7 - (lg_sl ([.ref b, .int p1, .int p2, .int p3, .int p4, .ref lk])).length) Slot.unset).toArray = ls at hl ⊢
  have hl : lv_has ls 7 [(0, .ref b), (1, .int p1), (2, .int p2), (3, .int p3), (4, .int p4), (5, .ref lk)] := hl
  refine lv_aload hx hb dL_put_0 (lv_at hl 5 rfl) ?_
  refine lv_iconst (v := 0) hx hb dL_put_2 (by decide) ?_
  refine lv_aload_n hx hb dL_put_3 rfl (lv_at hl 0 rfl) ?_
  refine lv_iload_n hx hb dL_put_4 rfl (lv_at hl 1 rfl) ?_
  refine lv_iload_n hx hb dL_put_5 rfl (lv_at hl 2 rfl) ?_
  refine lv_iload_n hx hb dL_put_6 rfl (lv_at hl 3 rfl) ?_
  refine lv_iload hx hb dL_put_7 (lv_at hl 4 rfl) ?_
  refine xt_callV (As := [.int p1, .int p2, .int p3, .int p4]) (rest := [.int 0, .ref lk]) ⟨hx, hb, hml, hown, xTs⟩ (t_put_S h b gr br wr ca ro pl z1 z2 z3 p1 p2 p3 p4 f hm ht hp h0 h1 hi hw hd) ⟨xB (n := 4) (k_360 h hb0) (k_1 h hb0) (k_357 h hb0) (by decide) rfl rfl rfl (by decide) (by decide), (k_358 h hb0), (k_359 h hb0)⟩ (xpV hb0 hS hz (va_P.sub (hRo _ _ hS) [0, 1] rfl) (va_recv hK (hRo _ _ hS) (ci := 5) (q0 := 0) rfl rfl)) rfl rfl hl.1 rfl (lv_room (Nat.le_of_ble_eq_true rfl)) dL_put_9 ⟨(Nat.le_of_ble_eq_true rfl), (Nat.le_of_ble_eq_true rfl)⟩ (fun q ce H h1 h2 h3 h4 h5 => ?_)
  refine xt_catch hown [⟨0, 14, 17, 13⟩, ⟨0, 14, 21, 15⟩] ⟨0, 14, 25, 44⟩ [] htab (fun z hz2 => by simp only [List.mem_cons, List.not_mem_nil, or_false] at hz2; rcases hz2 with rfl | rfl; exact ⟨rfl, by decide, _, k_129 h hb0, nc_TN h hb0⟩; exact ⟨rfl, by decide, _, k_130 h hb0, nc_TI h hb0⟩) rfl (by decide) (k_356 h hb0) (k_400 h hb0) h1 h2 h3 ?_
  have hP := xgrow hP h5
  have hS := xgrowS hS h4 h5
  show W _ _ _ _ _ _ _ _ _ _ _ _ _ _ _ (F0 m 25 ls [.ref q])
  refine lv_astore (lv' := [(6, .ref q), (0, .ref b), (1, .int p1), (2, .int p2), (3, .int p3), (4, .int p4), (5, .ref lk)]) hx hb dL_put_25 hl (by decide) rfl (fun ls hl => ?_)
  refine lv_iconst (v := 3) hx hb dL_put_27 (by decide) ?_
  exact W.iret hx hb hr (fun t ht _ => ⟨(some (.int 3)), _, rfl, ⟨rfl, rfl⟩, by rw [ht]; exact hP, hD, hS.F ht⟩) (fun q z => hS.2.2 q z) dL_put_28
set_option maxHeartbeats 4000000 in
set_option maxRecDepth 100000 in
theorem l_c_value_0 {l : Launch} {s0 : State} {a0 : Array Value} {dC : Nat → ClassId} {dI : Nat → Nat → Nat} {cA : Nat → ClassId} (h : xC l s0 a0 dC dI cA) (b gr br : Nat) (wr ca : Int32) (ro pl : Nat) (z1 z2 z3 p1 : Int32) (f : Nat → Option Nat) (a : Nat) (v : Int32) (lk : Nat) (lf : Nat → Int64) (sz : Nat) (hm : z1 = 0 ∨ z1 = 1) (ht : ¬ z1 = 0) (h0 : ¬ p1 < 0) (h1 : p1 < z3) (hi : vp_in p1 19) (hf : f p1.toNatClampNeg = some a) : Met l yL_value [Cond.codeWith yL_value cL_value 4 (some .int) [(0, 9, 12, 13), (0, 9, 15, 15)]] ({ frames := 3, cells := 0, slots := 0, locals := 110 } : Room) (xPM s0 (dC, dI) [.ref b, .int p1, .ref lk] [(b, .inr (5, [.ref ro, .ref gr, .ref br, .int wr, .int ca])), (br, .inr (1, [.ref pl, .int z1, .int z2, .int z3])), (pl, .inl (cA 8, 19, .inr (.inr (.inr (.inr f))))), (a, .inr (0, [.int v]))] [(lk, .inl (cA 1, 1, .inr (.inl lf)))] sz) (xQM (dC, dI) (va_A [(lk, .inl (cA 1, 1, .inr (.inl lf)))] sz) (fun r w1 => r = some (.int 0) ∧ w1 = [(lk, .inl (cA 1, 1, .inr (.inl (vp_updL lf 0 (v.toInt64)))))])) 0 0 (va_A [(lk, .inl (cA 1, 1, .inr (.inl lf)))] sz) := by
  refine va_MetW (cc := cL_value) (maxL := 4) (ret := (some .int)) (hh := [(0, 9, 12, 13), (0, 9, 15, 15)]) (by decide) rfl ?_
  intro p e s m args below meth c s₁ B hml hv
  obtain ⟨rfl, rfl, hb0, hPr, hP, hD0⟩ := hv
  have hx := B.exec
  have hb := B.bytes
  have hr := B.returns
  have hown : s.vm.findClass RL = some m.cls := findClass_of_methodNamed B.named
  have hlocks := B.notSynchronized
  have hK := h.K hb0
  have htab : c.exceptionTable.toList = [⟨0, 9, 12, 13⟩, ⟨0, 9, 15, 15⟩] := xtab (k_420 (args := #[]) h hb0) B.named B.method (Stand.of_body B).code
  have hS : va_S (va_A [(lk, .inl (cA 1, 1, .inr (.inl lf)))] s.heap.size) s.heap s.heap [] := va_S.rf
  obtain ⟨A, hAe, hD, hA, hz, hRo, hwk, hnR⟩ := xM_start hb0 hPr hP hD0
  rw [hAe] at hS ⊢
  have hl := lv_entry ([.ref b, .int p1, .ref lk]) (n := 4) (Nat.le_of_ble_eq_true rfl)
  rw [lg_entry_eq]
  generalize (lg_sl ([.ref b, .int p1, .ref lk]) ++ List.replicate (4 - (lg_sl ([.ref b, .int p1, .ref lk])).length) Slot.unset).toArray = ls at hl ⊢
  have hl : lv_has ls 4 [(0, .ref b), (1, .int p1), (2, .ref lk)] := hl
  refine lv_aload_n hx hb dL_value_0 rfl (lv_at hl 2 rfl) ?_
  refine lv_iconst (v := 0) hx hb dL_value_1 (by decide) ?_
  refine lv_aload_n hx hb dL_value_2 rfl (lv_at hl 0 rfl) ?_
  refine lv_iload_n hx hb dL_value_3 rfl (lv_at hl 1 rfl) ?_
  refine xr_1 (va_runV (As := [.int p1]) (rest := [.int 0, .ref lk]) ⟨hx, hb, hml, hown, xTs⟩ (c_value_0 h b gr br wr ca ro pl z1 z2 z3 p1 f a v hm ht h0 h1 hi hf) ⟨xB (n := 1) (k_424 h hb0) (k_1 h hb0) (k_421 h hb0) (by decide) rfl rfl rfl (by decide) (by decide), (k_422 h hb0), (k_423 h hb0)⟩ (xpV hb0 hS hz (va_P.sub (hRo _ _ hS) [0, 1, 2, 3] rfl) (va_recv hK (hRo _ _ hS) (ci := 5) (q0 := 0) rfl rfl)) rfl rfl hl.1 rfl (lv_room (Nat.le_of_ble_eq_true rfl)) dL_value_4 ⟨(Nat.le_of_ble_eq_true rfl), (Nat.le_of_ble_eq_true rfl)⟩) ?_
  refine lv_i2l hx hb dL_value_7 rfl ?_
  refine va_last hx hb hK hP hD hS 0 1 rfl rfl xin0 dL_value_8 (fun H locs hP hD hS => ?_)
  have hP : va_P (dC, dI) vwCl [(lk, .inl (cA 1, 1, .inr (.inl (vp_updL lf (0 : Int32).toNatClampNeg v.toInt64))))] H := hP
  have hD : va_D A [(lk, .inl (cA 1, 1, .inr (.inl (vp_updL lf (0 : Int32).toNatClampNeg v.toInt64))))] := hD
  refine lv_goto (tgt := 18) hx hb dL_value_9 (by decide) ?_
  refine lv_iconst (v := 0) hx hb dL_value_18 (by decide) ?_
  exact W.iret hx hb hr (fun t ht _ => ⟨(some (.int 0)), _, rfl, ⟨rfl, rfl⟩, by rw [ht]; exact hP, hD, hS.F ht⟩) (fun q z => hS.2.2 q z) dL_value_19
set_option maxHeartbeats 4000000 in
set_option maxRecDepth 100000 in
theorem l_c_value_2 {l : Launch} {s0 : State} {a0 : Array Value} {dC : Nat → ClassId} {dI : Nat → Nat → Nat} {cA : Nat → ClassId} (h : xC l s0 a0 dC dI cA) (b gr br : Nat) (wr ca : Int32) (ro pl : Nat) (z1 z2 z3 p1 : Int32) (f : Nat → Option Nat) (a : Nat) (v : Int32) (lk : Nat) (lf : Nat → Int64) (sz : Nat) (hm : z1 = 0 ∨ z1 = 1) (ht : ¬ z1 = 0) (h0 : ¬ p1 < 0) (h1 : p1 < z3) (hi : vp_in p1 19) (hf : f p1.toNatClampNeg = some a) : Met l yL_value [Cond.codeWith yL_value cL_value 4 (some .int) [(0, 9, 12, 13), (0, 9, 15, 15)]] ({ frames := 3, cells := 0, slots := 0, locals := 110 } : Room) (xPM s0 (dC, dI) [.ref b, .int p1, .ref lk] [(b, .inr (5, [.ref ro, .ref gr, .ref br, .int wr, .int ca])), (br, .inr (1, [.ref pl, .int z1, .int z2, .int z3])), (pl, .inl (cA 8, 19, .inr (.inr (.inr (.inr f))))), (a, .inr (2, [.int v]))] [(lk, .inl (cA 1, 1, .inr (.inl lf)))] sz) (xQM (dC, dI) (va_A [(lk, .inl (cA 1, 1, .inr (.inl lf)))] sz) (fun r w1 => r = some (.int 0) ∧ w1 = [(lk, .inl (cA 1, 1, .inr (.inl (vp_updL lf 0 (v.toInt64)))))])) 0 0 (va_A [(lk, .inl (cA 1, 1, .inr (.inl lf)))] sz) := by
  refine va_MetW (cc := cL_value) (maxL := 4) (ret := (some .int)) (hh := [(0, 9, 12, 13), (0, 9, 15, 15)]) (by decide) rfl ?_
  intro p e s m args below meth c s₁ B hml hv
  obtain ⟨rfl, rfl, hb0, hPr, hP, hD0⟩ := hv
  have hx := B.exec
  have hb := B.bytes
  have hr := B.returns
  have hown : s.vm.findClass RL = some m.cls := findClass_of_methodNamed B.named
  have hlocks := B.notSynchronized
  have hK := h.K hb0
  have htab : c.exceptionTable.toList = [⟨0, 9, 12, 13⟩, ⟨0, 9, 15, 15⟩] := xtab (k_420 (args := #[]) h hb0) B.named B.method (Stand.of_body B).code
  have hS : va_S (va_A [(lk, .inl (cA 1, 1, .inr (.inl lf)))] s.heap.size) s.heap s.heap [] := va_S.rf
  obtain ⟨A, hAe, hD, hA, hz, hRo, hwk, hnR⟩ := xM_start hb0 hPr hP hD0
  rw [hAe] at hS ⊢
  have hl := lv_entry ([.ref b, .int p1, .ref lk]) (n := 4) (Nat.le_of_ble_eq_true rfl)
  rw [lg_entry_eq]
  generalize (lg_sl ([.ref b, .int p1, .ref lk]) ++ List.replicate (4 - (lg_sl ([.ref b, .int p1, .ref lk])).length) Slot.unset).toArray = ls at hl ⊢
  have hl : lv_has ls 4 [(0, .ref b), (1, .int p1), (2, .ref lk)] := hl
  refine lv_aload_n hx hb dL_value_0 rfl (lv_at hl 2 rfl) ?_
  refine lv_iconst (v := 0) hx hb dL_value_1 (by decide) ?_
  refine lv_aload_n hx hb dL_value_2 rfl (lv_at hl 0 rfl) ?_
  refine lv_iload_n hx hb dL_value_3 rfl (lv_at hl 1 rfl) ?_
  refine xr_1 (va_runV (As := [.int p1]) (rest := [.int 0, .ref lk]) ⟨hx, hb, hml, hown, xTs⟩ (c_value_2 h b gr br wr ca ro pl z1 z2 z3 p1 f a v hm ht h0 h1 hi hf) ⟨xB (n := 1) (k_424 h hb0) (k_1 h hb0) (k_421 h hb0) (by decide) rfl rfl rfl (by decide) (by decide), (k_422 h hb0), (k_423 h hb0)⟩ (xpV hb0 hS hz (va_P.sub (hRo _ _ hS) [0, 1, 2, 3] rfl) (va_recv hK (hRo _ _ hS) (ci := 5) (q0 := 0) rfl rfl)) rfl rfl hl.1 rfl (lv_room (Nat.le_of_ble_eq_true rfl)) dL_value_4 ⟨(Nat.le_of_ble_eq_true rfl), (Nat.le_of_ble_eq_true rfl)⟩) ?_
  refine lv_i2l hx hb dL_value_7 rfl ?_
  refine va_last hx hb hK hP hD hS 0 1 rfl rfl xin0 dL_value_8 (fun H locs hP hD hS => ?_)
  have hP : va_P (dC, dI) vwCl [(lk, .inl (cA 1, 1, .inr (.inl (vp_updL lf (0 : Int32).toNatClampNeg v.toInt64))))] H := hP
  have hD : va_D A [(lk, .inl (cA 1, 1, .inr (.inl (vp_updL lf (0 : Int32).toNatClampNeg v.toInt64))))] := hD
  refine lv_goto (tgt := 18) hx hb dL_value_9 (by decide) ?_
  refine lv_iconst (v := 0) hx hb dL_value_18 (by decide) ?_
  exact W.iret hx hb hr (fun t ht _ => ⟨(some (.int 0)), _, rfl, ⟨rfl, rfl⟩, by rw [ht]; exact hP, hD, hS.F ht⟩) (fun q z => hS.2.2 q z) dL_value_19
set_option maxHeartbeats 4000000 in
set_option maxRecDepth 100000 in
theorem l_t_value_N {l : Launch} {s0 : State} {a0 : Array Value} {dC : Nat → ClassId} {dI : Nat → Nat → Nat} {cA : Nat → ClassId} (h : xC l s0 a0 dC dI cA) (b gr br : Nat) (wr ca : Int32) (ro pl : Nat) (z1 z2 z3 p1 : Int32) (f : Nat → Option Nat) (lk : Nat) (lf : Nat → Int64) (sz : Nat) (hm : z1 = 0 ∨ z1 = 1) (ht : z1 = 0) : Met l yL_value [Cond.codeWith yL_value cL_value 4 (some .int) [(0, 9, 12, 13), (0, 9, 15, 15)]] ({ frames := 10, cells := 1, slots := 8, locals := 200 } : Room) (xPM s0 (dC, dI) [.ref b, .int p1, .ref lk] [(b, .inr (5, [.ref ro, .ref gr, .ref br, .int wr, .int ca])), (br, .inr (1, [.ref pl, .int z1, .int z2, .int z3])), (pl, .inl (cA 8, 19, .inr (.inr (.inr (.inr f)))))] [(lk, .inl (cA 1, 1, .inr (.inl lf)))] sz) (xQM (dC, dI) (va_A [(lk, .inl (cA 1, 1, .inr (.inl lf)))] sz) (fun r w1 => r = some (.int 1) ∧ w1 = [(lk, .inl (cA 1, 1, .inr (.inl lf)))])) 1 8 (va_A [(lk, .inl (cA 1, 1, .inr (.inl lf)))] sz) := by
  refine va_MetW (cc := cL_value) (maxL := 4) (ret := (some .int)) (hh := [(0, 9, 12, 13), (0, 9, 15, 15)]) (by decide) rfl ?_
  intro p e s m args below meth c s₁ B hml hv
  obtain ⟨rfl, rfl, hb0, hPr, hP, hD0⟩ := hv
  have hx := B.exec
  have hb := B.bytes
  have hr := B.returns
  have hown : s.vm.findClass RL = some m.cls := findClass_of_methodNamed B.named
  have hlocks := B.notSynchronized
  have hK := h.K hb0
  have htab : c.exceptionTable.toList = [⟨0, 9, 12, 13⟩, ⟨0, 9, 15, 15⟩] := xtab (k_420 (args := #[]) h hb0) B.named B.method (Stand.of_body B).code
  have hS : va_S (va_A [(lk, .inl (cA 1, 1, .inr (.inl lf)))] s.heap.size) s.heap s.heap [] := va_S.rf
  obtain ⟨A, hAe, hD, hA, hz, hRo, hwk, hnR⟩ := xM_start hb0 hPr hP hD0
  rw [hAe] at hS ⊢
  have hl := lv_entry ([.ref b, .int p1, .ref lk]) (n := 4) (Nat.le_of_ble_eq_true rfl)
  rw [lg_entry_eq]
  generalize (lg_sl ([.ref b, .int p1, .ref lk]) ++ List.replicate (4 - (lg_sl ([.ref b, .int p1, .ref lk])).length) Slot.unset).toArray = ls at hl ⊢
  have hl : lv_has ls 4 [(0, .ref b), (1, .int p1), (2, .ref lk)] := hl
  refine lv_aload_n hx hb dL_value_0 rfl (lv_at hl 2 rfl) ?_
  refine lv_iconst (v := 0) hx hb dL_value_1 (by decide) ?_
  refine lv_aload_n hx hb dL_value_2 rfl (lv_at hl 0 rfl) ?_
  refine lv_iload_n hx hb dL_value_3 rfl (lv_at hl 1 rfl) ?_
  refine xt_callV (As := [.int p1]) (rest := [.int 0, .ref lk]) ⟨hx, hb, hml, hown, xTs⟩ (t_value_N h b gr br wr ca ro pl z1 z2 z3 p1 f hm ht) ⟨xB (n := 1) (k_424 h hb0) (k_1 h hb0) (k_421 h hb0) (by decide) rfl rfl rfl (by decide) (by decide), (k_422 h hb0), (k_423 h hb0)⟩ (xpV hb0 hS hz (va_P.sub (hRo _ _ hS) [0, 1, 2] rfl) (va_recv hK (hRo _ _ hS) (ci := 5) (q0 := 0) rfl rfl)) rfl rfl hl.1 rfl (lv_room (Nat.le_of_ble_eq_true rfl)) dL_value_4 ⟨(Nat.le_of_ble_eq_true rfl), (Nat.le_of_ble_eq_true rfl)⟩ (fun q ce H h1 h2 h3 h4 h5 => ?_)
  refine xt_catch hown [] ⟨0, 9, 12, 13⟩ [⟨0, 9, 15, 15⟩] htab xnone rfl (by decide) (k_129 h hb0) (k_143 h hb0) h1 h2 h3 ?_
  have hP := xgrow hP h5
  have hS := xgrowS hS h4 h5
  show W _ _ _ _ _ _ _ _ _ _ _ _ _ _ _ (F0 m 12 ls [.ref q])
  refine lv_astore_n (lv' := [(3, .ref q), (0, .ref b), (1, .int p1), (2, .ref lk)]) hx hb dL_value_12 rfl hl (by decide) rfl (fun ls hl => ?_)
  refine lv_iconst (v := 1) hx hb dL_value_13 (by decide) ?_
  exact W.iret hx hb hr (fun t ht _ => ⟨(some (.int 1)), _, rfl, ⟨rfl, rfl⟩, by rw [ht]; exact hP, hD, hS.F ht⟩) (fun q z => hS.2.2 q z) dL_value_14
set_option maxHeartbeats 4000000 in
set_option maxRecDepth 100000 in
theorem l_t_value_A {l : Launch} {s0 : State} {a0 : Array Value} {dC : Nat → ClassId} {dI : Nat → Nat → Nat} {cA : Nat → ClassId} (h : xC l s0 a0 dC dI cA) (b gr br : Nat) (wr ca : Int32) (ro pl : Nat) (z1 z2 z3 p1 : Int32) (f : Nat → Option Nat) (lk : Nat) (lf : Nat → Int64) (sz : Nat) (hm : z1 = 0 ∨ z1 = 1) (ht : ¬ z1 = 0) (hc : p1 < 0 ∨ ¬ p1 < z3) : Met l yL_value [Cond.codeWith yL_value cL_value 4 (some .int) [(0, 9, 12, 13), (0, 9, 15, 15)]] ({ frames := 10, cells := 1, slots := 8, locals := 200 } : Room) (xPM s0 (dC, dI) [.ref b, .int p1, .ref lk] [(b, .inr (5, [.ref ro, .ref gr, .ref br, .int wr, .int ca])), (br, .inr (1, [.ref pl, .int z1, .int z2, .int z3])), (pl, .inl (cA 8, 19, .inr (.inr (.inr (.inr f)))))] [(lk, .inl (cA 1, 1, .inr (.inl lf)))] sz) (xQM (dC, dI) (va_A [(lk, .inl (cA 1, 1, .inr (.inl lf)))] sz) (fun r w1 => r = some (.int 2) ∧ w1 = [(lk, .inl (cA 1, 1, .inr (.inl lf)))])) 1 8 (va_A [(lk, .inl (cA 1, 1, .inr (.inl lf)))] sz) := by
  refine va_MetW (cc := cL_value) (maxL := 4) (ret := (some .int)) (hh := [(0, 9, 12, 13), (0, 9, 15, 15)]) (by decide) rfl ?_
  intro p e s m args below meth c s₁ B hml hv
  obtain ⟨rfl, rfl, hb0, hPr, hP, hD0⟩ := hv
  have hx := B.exec
  have hb := B.bytes
  have hr := B.returns
  have hown : s.vm.findClass RL = some m.cls := findClass_of_methodNamed B.named
  have hlocks := B.notSynchronized
  have hK := h.K hb0
  have htab : c.exceptionTable.toList = [⟨0, 9, 12, 13⟩, ⟨0, 9, 15, 15⟩] := xtab (k_420 (args := #[]) h hb0) B.named B.method (Stand.of_body B).code
  have hS : va_S (va_A [(lk, .inl (cA 1, 1, .inr (.inl lf)))] s.heap.size) s.heap s.heap [] := va_S.rf
  obtain ⟨A, hAe, hD, hA, hz, hRo, hwk, hnR⟩ := xM_start hb0 hPr hP hD0
  rw [hAe] at hS ⊢
  have hl := lv_entry ([.ref b, .int p1, .ref lk]) (n := 4) (Nat.le_of_ble_eq_true rfl)
  rw [lg_entry_eq]
  generalize (lg_sl ([.ref b, .int p1, .ref lk]) ++ List.replicate (4 - (lg_sl ([.ref b, .int p1, .ref lk])).length) Slot.unset).toArray = ls at hl ⊢
  have hl : lv_has ls 4 [(0, .ref b), (1, .int p1), (2, .ref lk)] := hl
  refine lv_aload_n hx hb dL_value_0 rfl (lv_at hl 2 rfl) ?_
  refine lv_iconst (v := 0) hx hb dL_value_1 (by decide) ?_
  refine lv_aload_n hx hb dL_value_2 rfl (lv_at hl 0 rfl) ?_
  refine lv_iload_n hx hb dL_value_3 rfl (lv_at hl 1 rfl) ?_
  refine xt_callV (As := [.int p1]) (rest := [.int 0, .ref lk]) ⟨hx, hb, hml, hown, xTs⟩ (t_value_A h b gr br wr ca ro pl z1 z2 z3 p1 f hm ht hc) ⟨xB (n := 1) (k_424 h hb0) (k_1 h hb0) (k_421 h hb0) (by decide) rfl rfl rfl (by decide) (by decide), (k_422 h hb0), (k_423 h hb0)⟩ (xpV hb0 hS hz (va_P.sub (hRo _ _ hS) [0, 1, 2] rfl) (va_recv hK (hRo _ _ hS) (ci := 5) (q0 := 0) rfl rfl)) rfl rfl hl.1 rfl (lv_room (Nat.le_of_ble_eq_true rfl)) dL_value_4 ⟨(Nat.le_of_ble_eq_true rfl), (Nat.le_of_ble_eq_true rfl)⟩ (fun q ce H h1 h2 h3 h4 h5 => ?_)
  refine xt_catch hown [⟨0, 9, 12, 13⟩] ⟨0, 9, 15, 15⟩ [] htab (fun z hz2 => by rw [List.mem_singleton] at hz2; rw [hz2]; exact ⟨rfl, by decide, _, k_129 h hb0, nc_IN h hb0⟩) rfl (by decide) (k_130 h hb0) (k_235 h hb0) h1 h2 h3 ?_
  have hP := xgrow hP h5
  have hS := xgrowS hS h4 h5
  show W _ _ _ _ _ _ _ _ _ _ _ _ _ _ _ (F0 m 15 ls [.ref q])
  refine lv_astore_n (lv' := [(3, .ref q), (0, .ref b), (1, .int p1), (2, .ref lk)]) hx hb dL_value_15 rfl hl (by decide) rfl (fun ls hl => ?_)
  refine lv_iconst (v := 2) hx hb dL_value_16 (by decide) ?_
  exact W.iret hx hb hr (fun t ht _ => ⟨(some (.int 2)), _, rfl, ⟨rfl, rfl⟩, by rw [ht]; exact hP, hD, hS.F ht⟩) (fun q z => hS.2.2 q z) dL_value_17
set_option maxHeartbeats 4000000 in
set_option maxRecDepth 100000 in
theorem l_t_value_2 {l : Launch} {s0 : State} {a0 : Array Value} {dC : Nat → ClassId} {dI : Nat → Nat → Nat} {cA : Nat → ClassId} (h : xC l s0 a0 dC dI cA) (b gr br : Nat) (wr ca : Int32) (ro pl : Nat) (z1 z2 z3 p1 : Int32) (f : Nat → Option Nat) (lk : Nat) (lf : Nat → Int64) (sz : Nat) (hm : z1 = 0 ∨ z1 = 1) (ht : ¬ z1 = 0) (h0 : ¬ p1 < 0) (h1 : p1 < z3) (hi : vp_in p1 19) (hf : f p1.toNatClampNeg = none) : Met l yL_value [Cond.codeWith yL_value cL_value 4 (some .int) [(0, 9, 12, 13), (0, 9, 15, 15)]] ({ frames := 10, cells := 1, slots := 8, locals := 200 } : Room) (xPM s0 (dC, dI) [.ref b, .int p1, .ref lk] [(b, .inr (5, [.ref ro, .ref gr, .ref br, .int wr, .int ca])), (br, .inr (1, [.ref pl, .int z1, .int z2, .int z3])), (pl, .inl (cA 8, 19, .inr (.inr (.inr (.inr f)))))] [(lk, .inl (cA 1, 1, .inr (.inl lf)))] sz) (xQM (dC, dI) (va_A [(lk, .inl (cA 1, 1, .inr (.inl lf)))] sz) (fun r w1 => r = some (.int 1) ∧ w1 = [(lk, .inl (cA 1, 1, .inr (.inl lf)))])) 1 8 (va_A [(lk, .inl (cA 1, 1, .inr (.inl lf)))] sz) := by
  refine va_MetW (cc := cL_value) (maxL := 4) (ret := (some .int)) (hh := [(0, 9, 12, 13), (0, 9, 15, 15)]) (by decide) rfl ?_
  intro p e s m args below meth c s₁ B hml hv
  obtain ⟨rfl, rfl, hb0, hPr, hP, hD0⟩ := hv
  have hx := B.exec
  have hb := B.bytes
  have hr := B.returns
  have hown : s.vm.findClass RL = some m.cls := findClass_of_methodNamed B.named
  have hlocks := B.notSynchronized
  have hK := h.K hb0
  have htab : c.exceptionTable.toList = [⟨0, 9, 12, 13⟩, ⟨0, 9, 15, 15⟩] := xtab (k_420 (args := #[]) h hb0) B.named B.method (Stand.of_body B).code
  have hS : va_S (va_A [(lk, .inl (cA 1, 1, .inr (.inl lf)))] s.heap.size) s.heap s.heap [] := va_S.rf
  obtain ⟨A, hAe, hD, hA, hz, hRo, hwk, hnR⟩ := xM_start hb0 hPr hP hD0
  rw [hAe] at hS ⊢
  have hl := lv_entry ([.ref b, .int p1, .ref lk]) (n := 4) (Nat.le_of_ble_eq_true rfl)
  rw [lg_entry_eq]
  generalize (lg_sl ([.ref b, .int p1, .ref lk]) ++ List.replicate (4 - (lg_sl ([.ref b, .int p1, .ref lk])).length) Slot.unset).toArray = ls at hl ⊢
  have hl : lv_has ls 4 [(0, .ref b), (1, .int p1), (2, .ref lk)] := hl
  refine lv_aload_n hx hb dL_value_0 rfl (lv_at hl 2 rfl) ?_
  refine lv_iconst (v := 0) hx hb dL_value_1 (by decide) ?_
  refine lv_aload_n hx hb dL_value_2 rfl (lv_at hl 0 rfl) ?_
  refine lv_iload_n hx hb dL_value_3 rfl (lv_at hl 1 rfl) ?_
  refine xt_callV (As := [.int p1]) (rest := [.int 0, .ref lk]) ⟨hx, hb, hml, hown, xTs⟩ (t_value_2 h b gr br wr ca ro pl z1 z2 z3 p1 f hm ht h0 h1 hi hf) ⟨xB (n := 1) (k_424 h hb0) (k_1 h hb0) (k_421 h hb0) (by decide) rfl rfl rfl (by decide) (by decide), (k_422 h hb0), (k_423 h hb0)⟩ (xpV hb0 hS hz (va_P.sub (hRo _ _ hS) [0, 1, 2] rfl) (va_recv hK (hRo _ _ hS) (ci := 5) (q0 := 0) rfl rfl)) rfl rfl hl.1 rfl (lv_room (Nat.le_of_ble_eq_true rfl)) dL_value_4 ⟨(Nat.le_of_ble_eq_true rfl), (Nat.le_of_ble_eq_true rfl)⟩ (fun q ce H h1 h2 h3 h4 h5 => ?_)
  refine xt_catch hown [] ⟨0, 9, 12, 13⟩ [⟨0, 9, 15, 15⟩] htab xnone rfl (by decide) (k_129 h hb0) (k_143 h hb0) h1 h2 h3 ?_
  have hP := xgrow hP h5
  have hS := xgrowS hS h4 h5
  show W _ _ _ _ _ _ _ _ _ _ _ _ _ _ _ (F0 m 12 ls [.ref q])
  refine lv_astore_n (lv' := [(3, .ref q), (0, .ref b), (1, .int p1), (2, .ref lk)]) hx hb dL_value_12 rfl hl (by decide) rfl (fun ls hl => ?_)
  refine lv_iconst (v := 1) hx hb dL_value_13 (by decide) ?_
  exact W.iret hx hb hr (fun t ht _ => ⟨(some (.int 1)), _, rfl, ⟨rfl, rfl⟩, by rw [ht]; exact hP, hD, hS.F ht⟩) (fun q z => hS.2.2 q z) dL_value_14
set_option maxHeartbeats 4000000 in
set_option maxRecDepth 100000 in
theorem l_c_change_0 {l : Launch} {s0 : State} {a0 : Array Value} {dC : Nat → ClassId} {dI : Nat → Nat → Nat} {cA : Nat → ClassId} (h : xC l s0 a0 dC dI cA) (b gr br : Nat) (wr ca : Int32) (ro pl : Nat) (z1 z2 z3 p1 : Int32) (f : Nat → Option Nat) (p2 : Int32) (a : Nat) (v : Int32) (lk : Nat) (lf : Nat → Int64) (sz : Nat) (hm : z1 = 0 ∨ z1 = 1) (ht : ¬ z1 = 0) (h0 : ¬ p1 < 0) (h1 : p1 < z3) (hi : vp_in p1 19) (hf : f p1.toNatClampNeg = some a) : Met l yL_change [Cond.codeWith yL_change cL_change 5 (some .int) [(0, 10, 13, 13), (0, 10, 17, 15)]] ({ frames := 3, cells := 0, slots := 0, locals := 110 } : Room) (xPM s0 (dC, dI) [.ref b, .int p1, .int p2, .ref lk] [(b, .inr (5, [.ref ro, .ref gr, .ref br, .int wr, .int ca])), (br, .inr (1, [.ref pl, .int z1, .int z2, .int z3])), (pl, .inl (cA 8, 19, .inr (.inr (.inr (.inr f)))))] [(lk, .inl (cA 1, 1, .inr (.inl lf))), (a, .inr (0, [.int v]))] sz) (xQM (dC, dI) (va_A [(lk, .inl (cA 1, 1, .inr (.inl lf))), (a, .inr (0, [.int v]))] sz) (fun r w1 => r = some (.int 0) ∧ w1 = [(lk, .inl (cA 1, 1, .inr (.inl (vp_updL lf 0 (v.toInt64))))), (a, .inr (0, [.int p2]))])) 0 0 (va_A [(lk, .inl (cA 1, 1, .inr (.inl lf))), (a, .inr (0, [.int v]))] sz) := by
  refine va_MetW (cc := cL_change) (maxL := 5) (ret := (some .int)) (hh := [(0, 10, 13, 13), (0, 10, 17, 15)]) (by decide) rfl ?_
  intro p e s m args below meth c s₁ B hml hv
  obtain ⟨rfl, rfl, hb0, hPr, hP, hD0⟩ := hv
  have hx := B.exec
  have hb := B.bytes
  have hr := B.returns
  have hown : s.vm.findClass RL = some m.cls := findClass_of_methodNamed B.named
  have hlocks := B.notSynchronized
  have hK := h.K hb0
  have htab : c.exceptionTable.toList = [⟨0, 10, 13, 13⟩, ⟨0, 10, 17, 15⟩] := xtab (k_436 (args := #[]) h hb0) B.named B.method (Stand.of_body B).code
  have hS : va_S (va_A [(lk, .inl (cA 1, 1, .inr (.inl lf))), (a, .inr (0, [.int v]))] s.heap.size) s.heap s.heap [] := va_S.rf
  obtain ⟨A, hAe, hD, hA, hz, hRo, hwk, hnR⟩ := xM_start hb0 hPr hP hD0
  rw [hAe] at hS ⊢
  have hl := lv_entry ([.ref b, .int p1, .int p2, .ref lk]) (n := 5) (Nat.le_of_ble_eq_true rfl)
  rw [lg_entry_eq]
  generalize (lg_sl ([.ref b, .int p1, .int p2, .ref lk]) ++ List.replicate (5 - (lg_sl ([.ref b, .int p1, .int p2, .ref lk])).length) Slot.unset).toArray = ls at hl ⊢
  have hl : lv_has ls 5 [(0, .ref b), (1, .int p1), (2, .int p2), (3, .ref lk)] := hl
  refine lv_aload_n hx hb dL_change_0 rfl (lv_at hl 3 rfl) ?_
  refine lv_iconst (v := 0) hx hb dL_change_1 (by decide) ?_
  refine lv_aload_n hx hb dL_change_2 rfl (lv_at hl 0 rfl) ?_
  refine lv_iload_n hx hb dL_change_3 rfl (lv_at hl 1 rfl) ?_
  refine lv_iload_n hx hb dL_change_4 rfl (lv_at hl 2 rfl) ?_
  refine xm_of (wc := [(a, .inr (0, [.int v]))]) (wo := [(lk, .inl (cA 1, 1, .inr (.inl lf)))]) (va_runV (As := [.int p1, .int p2]) (rest := [.int 0, .ref lk]) ⟨hx, hb, hml, hown, xTs⟩ (c_change_0 h b gr br wr ca ro pl z1 z2 z3 p1 f p2 a v _ hm ht h0 h1 hi hf) ⟨xB (n := 2) (k_440 h hb0) (k_1 h hb0) (k_437 h hb0) (by decide) rfl rfl rfl (by decide) (by decide), (k_438 h hb0), (k_439 h hb0)⟩ (xpMV (wr := [(b, .inr (5, [.ref ro, .ref gr, .ref br, .int wr, .int ca])), (br, .inr (1, [.ref pl, .int z1, .int z2, .int z3])), (pl, .inl (cA 8, 19, .inr (.inr (.inr (.inr f)))))]) (wc := [(a, .inr (0, [.int v]))]) hb0 hS hz (va_P.sub (hRo _ _ hS) [0, 1, 2] rfl) (va_P.sub hP [1] rfl) (va_D.sub (xDD (xDl hD0) hD hz hnR) [0, 1, 2, 4] rfl rfl) (va_recv hK (hRo _ _ hS) (ci := 5) (q0 := 0) rfl rfl)) rfl rfl hl.1 rfl (lv_room (Nat.le_of_ble_eq_true rfl)) dL_change_5 ⟨(Nat.le_of_ble_eq_true rfl), (Nat.le_of_ble_eq_true rfl)⟩) hP hD hS hA [1] [0] rfl rfl rfl (by decide) (fun r w1 H locs hΦ hP hD hS => ?_)
  obtain ⟨rfl, rfl⟩ := hΦ
  have hP : va_P (dC, dI) vwCl [(lk, .inl (cA 1, 1, .inr (.inl lf))), (a, .inr (0, [.int p2]))] H := hP
  have hD : va_D A [(lk, .inl (cA 1, 1, .inr (.inl lf))), (a, .inr (0, [.int p2]))] := hD
  refine lv_i2l hx hb dL_change_8 rfl ?_
  refine va_last hx hb hK hP hD hS 0 1 rfl rfl xin0 dL_change_9 (fun H locs hP hD hS => ?_)
  have hP : va_P (dC, dI) vwCl [(lk, .inl (cA 1, 1, .inr (.inl (vp_updL lf (0 : Int32).toNatClampNeg v.toInt64)))), (a, .inr (0, [.int p2]))] H := hP
  have hD : va_D A [(lk, .inl (cA 1, 1, .inr (.inl (vp_updL lf (0 : Int32).toNatClampNeg v.toInt64)))), (a, .inr (0, [.int p2]))] := hD
  refine lv_goto (tgt := 21) hx hb dL_change_10 (by decide) ?_
  refine lv_iconst (v := 0) hx hb dL_change_21 (by decide) ?_
  exact W.iret hx hb hr (fun t ht _ => ⟨(some (.int 0)), _, rfl, ⟨rfl, rfl⟩, by rw [ht]; exact hP, hD, hS.F ht⟩) (fun q z => hS.2.2 q z) dL_change_22
set_option maxHeartbeats 4000000 in
set_option maxRecDepth 100000 in
theorem l_c_change_2 {l : Launch} {s0 : State} {a0 : Array Value} {dC : Nat → ClassId} {dI : Nat → Nat → Nat} {cA : Nat → ClassId} (h : xC l s0 a0 dC dI cA) (b gr br : Nat) (wr ca : Int32) (ro pl : Nat) (z1 z2 z3 p1 : Int32) (f : Nat → Option Nat) (p2 : Int32) (a : Nat) (v : Int32) (lk : Nat) (lf : Nat → Int64) (sz : Nat) (hm : z1 = 0 ∨ z1 = 1) (ht : ¬ z1 = 0) (h0 : ¬ p1 < 0) (h1 : p1 < z3) (hi : vp_in p1 19) (hf : f p1.toNatClampNeg = some a) : Met l yL_change [Cond.codeWith yL_change cL_change 5 (some .int) [(0, 10, 13, 13), (0, 10, 17, 15)]] ({ frames := 3, cells := 0, slots := 0, locals := 110 } : Room) (xPM s0 (dC, dI) [.ref b, .int p1, .int p2, .ref lk] [(b, .inr (5, [.ref ro, .ref gr, .ref br, .int wr, .int ca])), (br, .inr (1, [.ref pl, .int z1, .int z2, .int z3])), (pl, .inl (cA 8, 19, .inr (.inr (.inr (.inr f)))))] [(lk, .inl (cA 1, 1, .inr (.inl lf))), (a, .inr (2, [.int v]))] sz) (xQM (dC, dI) (va_A [(lk, .inl (cA 1, 1, .inr (.inl lf))), (a, .inr (2, [.int v]))] sz) (fun r w1 => r = some (.int 0) ∧ w1 = [(lk, .inl (cA 1, 1, .inr (.inl (vp_updL lf 0 (v.toInt64))))), (a, .inr (2, [.int p2]))])) 0 0 (va_A [(lk, .inl (cA 1, 1, .inr (.inl lf))), (a, .inr (2, [.int v]))] sz) := by
  refine va_MetW (cc := cL_change) (maxL := 5) (ret := (some .int)) (hh := [(0, 10, 13, 13), (0, 10, 17, 15)]) (by decide) rfl ?_
  intro p e s m args below meth c s₁ B hml hv
  obtain ⟨rfl, rfl, hb0, hPr, hP, hD0⟩ := hv
  have hx := B.exec
  have hb := B.bytes
  have hr := B.returns
  have hown : s.vm.findClass RL = some m.cls := findClass_of_methodNamed B.named
  have hlocks := B.notSynchronized
  have hK := h.K hb0
  have htab : c.exceptionTable.toList = [⟨0, 10, 13, 13⟩, ⟨0, 10, 17, 15⟩] := xtab (k_436 (args := #[]) h hb0) B.named B.method (Stand.of_body B).code
  have hS : va_S (va_A [(lk, .inl (cA 1, 1, .inr (.inl lf))), (a, .inr (2, [.int v]))] s.heap.size) s.heap s.heap [] := va_S.rf
  obtain ⟨A, hAe, hD, hA, hz, hRo, hwk, hnR⟩ := xM_start hb0 hPr hP hD0
  rw [hAe] at hS ⊢
  have hl := lv_entry ([.ref b, .int p1, .int p2, .ref lk]) (n := 5) (Nat.le_of_ble_eq_true rfl)
  rw [lg_entry_eq]
  generalize (lg_sl ([.ref b, .int p1, .int p2, .ref lk]) ++ List.replicate (5 - (lg_sl ([.ref b, .int p1, .int p2, .ref lk])).length) Slot.unset).toArray = ls at hl ⊢
  have hl : lv_has ls 5 [(0, .ref b), (1, .int p1), (2, .int p2), (3, .ref lk)] := hl
  refine lv_aload_n hx hb dL_change_0 rfl (lv_at hl 3 rfl) ?_
  refine lv_iconst (v := 0) hx hb dL_change_1 (by decide) ?_
  refine lv_aload_n hx hb dL_change_2 rfl (lv_at hl 0 rfl) ?_
  refine lv_iload_n hx hb dL_change_3 rfl (lv_at hl 1 rfl) ?_
  refine lv_iload_n hx hb dL_change_4 rfl (lv_at hl 2 rfl) ?_
  refine xm_of (wc := [(a, .inr (2, [.int v]))]) (wo := [(lk, .inl (cA 1, 1, .inr (.inl lf)))]) (va_runV (As := [.int p1, .int p2]) (rest := [.int 0, .ref lk]) ⟨hx, hb, hml, hown, xTs⟩ (c_change_2 h b gr br wr ca ro pl z1 z2 z3 p1 f p2 a v _ hm ht h0 h1 hi hf) ⟨xB (n := 2) (k_440 h hb0) (k_1 h hb0) (k_437 h hb0) (by decide) rfl rfl rfl (by decide) (by decide), (k_438 h hb0), (k_439 h hb0)⟩ (xpMV (wr := [(b, .inr (5, [.ref ro, .ref gr, .ref br, .int wr, .int ca])), (br, .inr (1, [.ref pl, .int z1, .int z2, .int z3])), (pl, .inl (cA 8, 19, .inr (.inr (.inr (.inr f)))))]) (wc := [(a, .inr (2, [.int v]))]) hb0 hS hz (va_P.sub (hRo _ _ hS) [0, 1, 2] rfl) (va_P.sub hP [1] rfl) (va_D.sub (xDD (xDl hD0) hD hz hnR) [0, 1, 2, 4] rfl rfl) (va_recv hK (hRo _ _ hS) (ci := 5) (q0 := 0) rfl rfl)) rfl rfl hl.1 rfl (lv_room (Nat.le_of_ble_eq_true rfl)) dL_change_5 ⟨(Nat.le_of_ble_eq_true rfl), (Nat.le_of_ble_eq_true rfl)⟩) hP hD hS hA [1] [0] rfl rfl rfl (by decide) (fun r w1 H locs hΦ hP hD hS => ?_)
  obtain ⟨rfl, rfl⟩ := hΦ
  have hP : va_P (dC, dI) vwCl [(lk, .inl (cA 1, 1, .inr (.inl lf))), (a, .inr (2, [.int p2]))] H := hP
  have hD : va_D A [(lk, .inl (cA 1, 1, .inr (.inl lf))), (a, .inr (2, [.int p2]))] := hD
  refine lv_i2l hx hb dL_change_8 rfl ?_
  refine va_last hx hb hK hP hD hS 0 1 rfl rfl xin0 dL_change_9 (fun H locs hP hD hS => ?_)
  have hP : va_P (dC, dI) vwCl [(lk, .inl (cA 1, 1, .inr (.inl (vp_updL lf (0 : Int32).toNatClampNeg v.toInt64)))), (a, .inr (2, [.int p2]))] H := hP
  have hD : va_D A [(lk, .inl (cA 1, 1, .inr (.inl (vp_updL lf (0 : Int32).toNatClampNeg v.toInt64)))), (a, .inr (2, [.int p2]))] := hD
  refine lv_goto (tgt := 21) hx hb dL_change_10 (by decide) ?_
  refine lv_iconst (v := 0) hx hb dL_change_21 (by decide) ?_
  exact W.iret hx hb hr (fun t ht _ => ⟨(some (.int 0)), _, rfl, ⟨rfl, rfl⟩, by rw [ht]; exact hP, hD, hS.F ht⟩) (fun q z => hS.2.2 q z) dL_change_22
set_option maxHeartbeats 4000000 in
set_option maxRecDepth 100000 in
theorem l_t_change_N {l : Launch} {s0 : State} {a0 : Array Value} {dC : Nat → ClassId} {dI : Nat → Nat → Nat} {cA : Nat → ClassId} (h : xC l s0 a0 dC dI cA) (b gr br : Nat) (wr ca : Int32) (ro pl : Nat) (z1 z2 z3 p1 : Int32) (f : Nat → Option Nat) (p2 : Int32) (lk : Nat) (lf : Nat → Int64) (sz : Nat) (hm : z1 = 0 ∨ z1 = 1) (ht : z1 = 0) : Met l yL_change [Cond.codeWith yL_change cL_change 5 (some .int) [(0, 10, 13, 13), (0, 10, 17, 15)]] ({ frames := 10, cells := 1, slots := 8, locals := 200 } : Room) (xPM s0 (dC, dI) [.ref b, .int p1, .int p2, .ref lk] [(b, .inr (5, [.ref ro, .ref gr, .ref br, .int wr, .int ca])), (br, .inr (1, [.ref pl, .int z1, .int z2, .int z3])), (pl, .inl (cA 8, 19, .inr (.inr (.inr (.inr f)))))] [(lk, .inl (cA 1, 1, .inr (.inl lf)))] sz) (xQM (dC, dI) (va_A [(lk, .inl (cA 1, 1, .inr (.inl lf)))] sz) (fun r w1 => r = some (.int 1) ∧ w1 = [(lk, .inl (cA 1, 1, .inr (.inl lf)))])) 1 8 (va_A [(lk, .inl (cA 1, 1, .inr (.inl lf)))] sz) := by
  refine va_MetW (cc := cL_change) (maxL := 5) (ret := (some .int)) (hh := [(0, 10, 13, 13), (0, 10, 17, 15)]) (by decide) rfl ?_
  intro p e s m args below meth c s₁ B hml hv
  obtain ⟨rfl, rfl, hb0, hPr, hP, hD0⟩ := hv
  have hx := B.exec
  have hb := B.bytes
  have hr := B.returns
  have hown : s.vm.findClass RL = some m.cls := findClass_of_methodNamed B.named
  have hlocks := B.notSynchronized
  have hK := h.K hb0
  have htab : c.exceptionTable.toList = [⟨0, 10, 13, 13⟩, ⟨0, 10, 17, 15⟩] := xtab (k_436 (args := #[]) h hb0) B.named B.method (Stand.of_body B).code
  have hS : va_S (va_A [(lk, .inl (cA 1, 1, .inr (.inl lf)))] s.heap.size) s.heap s.heap [] := va_S.rf
  obtain ⟨A, hAe, hD, hA, hz, hRo, hwk, hnR⟩ := xM_start hb0 hPr hP hD0
  rw [hAe] at hS ⊢
  have hl := lv_entry ([.ref b, .int p1, .int p2, .ref lk]) (n := 5) (Nat.le_of_ble_eq_true rfl)
  rw [lg_entry_eq]
  generalize (lg_sl ([.ref b, .int p1, .int p2, .ref lk]) ++ List.replicate (5 - (lg_sl ([.ref b, .int p1, .int p2, .ref lk])).length) Slot.unset).toArray = ls at hl ⊢
  have hl : lv_has ls 5 [(0, .ref b), (1, .int p1), (2, .int p2), (3, .ref lk)] := hl
  refine lv_aload_n hx hb dL_change_0 rfl (lv_at hl 3 rfl) ?_
  refine lv_iconst (v := 0) hx hb dL_change_1 (by decide) ?_
  refine lv_aload_n hx hb dL_change_2 rfl (lv_at hl 0 rfl) ?_
  refine lv_iload_n hx hb dL_change_3 rfl (lv_at hl 1 rfl) ?_
  refine lv_iload_n hx hb dL_change_4 rfl (lv_at hl 2 rfl) ?_
  refine xt_callV (As := [.int p1, .int p2]) (rest := [.int 0, .ref lk]) ⟨hx, hb, hml, hown, xTs⟩ (t_change_N h b gr br wr ca ro pl z1 z2 z3 p1 f p2 hm ht) ⟨xB (n := 2) (k_440 h hb0) (k_1 h hb0) (k_437 h hb0) (by decide) rfl rfl rfl (by decide) (by decide), (k_438 h hb0), (k_439 h hb0)⟩ (xpV hb0 hS hz (va_P.sub (hRo _ _ hS) [0, 1, 2] rfl) (va_recv hK (hRo _ _ hS) (ci := 5) (q0 := 0) rfl rfl)) rfl rfl hl.1 rfl (lv_room (Nat.le_of_ble_eq_true rfl)) dL_change_5 ⟨(Nat.le_of_ble_eq_true rfl), (Nat.le_of_ble_eq_true rfl)⟩ (fun q ce H h1 h2 h3 h4 h5 => ?_)
  refine xt_catch hown [] ⟨0, 10, 13, 13⟩ [⟨0, 10, 17, 15⟩] htab xnone rfl (by decide) (k_129 h hb0) (k_143 h hb0) h1 h2 h3 ?_
  have hP := xgrow hP h5
  have hS := xgrowS hS h4 h5
  show W _ _ _ _ _ _ _ _ _ _ _ _ _ _ _ (F0 m 13 ls [.ref q])
  refine lv_astore (lv' := [(4, .ref q), (0, .ref b), (1, .int p1), (2, .int p2), (3, .ref lk)]) hx hb dL_change_13 hl (by decide) rfl (fun ls hl => ?_)
  refine lv_iconst (v := 1) hx hb dL_change_15 (by decide) ?_
  exact W.iret hx hb hr (fun t ht _ => ⟨(some (.int 1)), _, rfl, ⟨rfl, rfl⟩, by rw [ht]; exact hP, hD, hS.F ht⟩) (fun q z => hS.2.2 q z) dL_change_16
set_option maxHeartbeats 4000000 in
set_option maxRecDepth 100000 in
theorem l_t_change_A {l : Launch} {s0 : State} {a0 : Array Value} {dC : Nat → ClassId} {dI : Nat → Nat → Nat} {cA : Nat → ClassId} (h : xC l s0 a0 dC dI cA) (b gr br : Nat) (wr ca : Int32) (ro pl : Nat) (z1 z2 z3 p1 : Int32) (f : Nat → Option Nat) (p2 : Int32) (lk : Nat) (lf : Nat → Int64) (sz : Nat) (hm : z1 = 0 ∨ z1 = 1) (ht : ¬ z1 = 0) (hc : p1 < 0 ∨ ¬ p1 < z3) : Met l yL_change [Cond.codeWith yL_change cL_change 5 (some .int) [(0, 10, 13, 13), (0, 10, 17, 15)]] ({ frames := 10, cells := 1, slots := 8, locals := 200 } : Room) (xPM s0 (dC, dI) [.ref b, .int p1, .int p2, .ref lk] [(b, .inr (5, [.ref ro, .ref gr, .ref br, .int wr, .int ca])), (br, .inr (1, [.ref pl, .int z1, .int z2, .int z3])), (pl, .inl (cA 8, 19, .inr (.inr (.inr (.inr f)))))] [(lk, .inl (cA 1, 1, .inr (.inl lf)))] sz) (xQM (dC, dI) (va_A [(lk, .inl (cA 1, 1, .inr (.inl lf)))] sz) (fun r w1 => r = some (.int 2) ∧ w1 = [(lk, .inl (cA 1, 1, .inr (.inl lf)))])) 1 8 (va_A [(lk, .inl (cA 1, 1, .inr (.inl lf)))] sz) := by
  refine va_MetW (cc := cL_change) (maxL := 5) (ret := (some .int)) (hh := [(0, 10, 13, 13), (0, 10, 17, 15)]) (by decide) rfl ?_
  intro p e s m args below meth c s₁ B hml hv
  obtain ⟨rfl, rfl, hb0, hPr, hP, hD0⟩ := hv
  have hx := B.exec
  have hb := B.bytes
  have hr := B.returns
  have hown : s.vm.findClass RL = some m.cls := findClass_of_methodNamed B.named
  have hlocks := B.notSynchronized
  have hK := h.K hb0
  have htab : c.exceptionTable.toList = [⟨0, 10, 13, 13⟩, ⟨0, 10, 17, 15⟩] := xtab (k_436 (args := #[]) h hb0) B.named B.method (Stand.of_body B).code
  have hS : va_S (va_A [(lk, .inl (cA 1, 1, .inr (.inl lf)))] s.heap.size) s.heap s.heap [] := va_S.rf
  obtain ⟨A, hAe, hD, hA, hz, hRo, hwk, hnR⟩ := xM_start hb0 hPr hP hD0
  rw [hAe] at hS ⊢
  have hl := lv_entry ([.ref b, .int p1, .int p2, .ref lk]) (n := 5) (Nat.le_of_ble_eq_true rfl)
  rw [lg_entry_eq]
  generalize (lg_sl ([.ref b, .int p1, .int p2, .ref lk]) ++ List.replicate (5 - (lg_sl ([.ref b, .int p1, .int p2, .ref lk])).length) Slot.unset).toArray = ls at hl ⊢
  have hl : lv_has ls 5 [(0, .ref b), (1, .int p1), (2, .int p2), (3, .ref lk)] := hl
  refine lv_aload_n hx hb dL_change_0 rfl (lv_at hl 3 rfl) ?_
  refine lv_iconst (v := 0) hx hb dL_change_1 (by decide) ?_
  refine lv_aload_n hx hb dL_change_2 rfl (lv_at hl 0 rfl) ?_
  refine lv_iload_n hx hb dL_change_3 rfl (lv_at hl 1 rfl) ?_
  refine lv_iload_n hx hb dL_change_4 rfl (lv_at hl 2 rfl) ?_
  refine xt_callV (As := [.int p1, .int p2]) (rest := [.int 0, .ref lk]) ⟨hx, hb, hml, hown, xTs⟩ (t_change_A h b gr br wr ca ro pl z1 z2 z3 p1 f p2 hm ht hc) ⟨xB (n := 2) (k_440 h hb0) (k_1 h hb0) (k_437 h hb0) (by decide) rfl rfl rfl (by decide) (by decide), (k_438 h hb0), (k_439 h hb0)⟩ (xpV hb0 hS hz (va_P.sub (hRo _ _ hS) [0, 1, 2] rfl) (va_recv hK (hRo _ _ hS) (ci := 5) (q0 := 0) rfl rfl)) rfl rfl hl.1 rfl (lv_room (Nat.le_of_ble_eq_true rfl)) dL_change_5 ⟨(Nat.le_of_ble_eq_true rfl), (Nat.le_of_ble_eq_true rfl)⟩ (fun q ce H h1 h2 h3 h4 h5 => ?_)
  refine xt_catch hown [⟨0, 10, 13, 13⟩] ⟨0, 10, 17, 15⟩ [] htab (fun z hz2 => by rw [List.mem_singleton] at hz2; rw [hz2]; exact ⟨rfl, by decide, _, k_129 h hb0, nc_IN h hb0⟩) rfl (by decide) (k_130 h hb0) (k_235 h hb0) h1 h2 h3 ?_
  have hP := xgrow hP h5
  have hS := xgrowS hS h4 h5
  show W _ _ _ _ _ _ _ _ _ _ _ _ _ _ _ (F0 m 17 ls [.ref q])
  refine lv_astore (lv' := [(4, .ref q), (0, .ref b), (1, .int p1), (2, .int p2), (3, .ref lk)]) hx hb dL_change_17 hl (by decide) rfl (fun ls hl => ?_)
  refine lv_iconst (v := 2) hx hb dL_change_19 (by decide) ?_
  exact W.iret hx hb hr (fun t ht _ => ⟨(some (.int 2)), _, rfl, ⟨rfl, rfl⟩, by rw [ht]; exact hP, hD, hS.F ht⟩) (fun q z => hS.2.2 q z) dL_change_20
set_option maxHeartbeats 4000000 in
set_option maxRecDepth 100000 in
theorem l_t_change_2 {l : Launch} {s0 : State} {a0 : Array Value} {dC : Nat → ClassId} {dI : Nat → Nat → Nat} {cA : Nat → ClassId} (h : xC l s0 a0 dC dI cA) (b gr br : Nat) (wr ca : Int32) (ro pl : Nat) (z1 z2 z3 p1 : Int32) (f : Nat → Option Nat) (p2 : Int32) (lk : Nat) (lf : Nat → Int64) (sz : Nat) (hm : z1 = 0 ∨ z1 = 1) (ht : ¬ z1 = 0) (h0 : ¬ p1 < 0) (h1 : p1 < z3) (hi : vp_in p1 19) (hf : f p1.toNatClampNeg = none) : Met l yL_change [Cond.codeWith yL_change cL_change 5 (some .int) [(0, 10, 13, 13), (0, 10, 17, 15)]] ({ frames := 10, cells := 1, slots := 8, locals := 200 } : Room) (xPM s0 (dC, dI) [.ref b, .int p1, .int p2, .ref lk] [(b, .inr (5, [.ref ro, .ref gr, .ref br, .int wr, .int ca])), (br, .inr (1, [.ref pl, .int z1, .int z2, .int z3])), (pl, .inl (cA 8, 19, .inr (.inr (.inr (.inr f)))))] [(lk, .inl (cA 1, 1, .inr (.inl lf)))] sz) (xQM (dC, dI) (va_A [(lk, .inl (cA 1, 1, .inr (.inl lf)))] sz) (fun r w1 => r = some (.int 1) ∧ w1 = [(lk, .inl (cA 1, 1, .inr (.inl lf)))])) 1 8 (va_A [(lk, .inl (cA 1, 1, .inr (.inl lf)))] sz) := by
  refine va_MetW (cc := cL_change) (maxL := 5) (ret := (some .int)) (hh := [(0, 10, 13, 13), (0, 10, 17, 15)]) (by decide) rfl ?_
  intro p e s m args below meth c s₁ B hml hv
  obtain ⟨rfl, rfl, hb0, hPr, hP, hD0⟩ := hv
  have hx := B.exec
  have hb := B.bytes
  have hr := B.returns
  have hown : s.vm.findClass RL = some m.cls := findClass_of_methodNamed B.named
  have hlocks := B.notSynchronized
  have hK := h.K hb0
  have htab : c.exceptionTable.toList = [⟨0, 10, 13, 13⟩, ⟨0, 10, 17, 15⟩] := xtab (k_436 (args := #[]) h hb0) B.named B.method (Stand.of_body B).code
  have hS : va_S (va_A [(lk, .inl (cA 1, 1, .inr (.inl lf)))] s.heap.size) s.heap s.heap [] := va_S.rf
  obtain ⟨A, hAe, hD, hA, hz, hRo, hwk, hnR⟩ := xM_start hb0 hPr hP hD0
  rw [hAe] at hS ⊢
  have hl := lv_entry ([.ref b, .int p1, .int p2, .ref lk]) (n := 5) (Nat.le_of_ble_eq_true rfl)
  rw [lg_entry_eq]
  generalize (lg_sl ([.ref b, .int p1, .int p2, .ref lk]) ++ List.replicate (5 - (lg_sl ([.ref b, .int p1, .int p2, .ref lk])).length) Slot.unset).toArray = ls at hl ⊢
  have hl : lv_has ls 5 [(0, .ref b), (1, .int p1), (2, .int p2), (3, .ref lk)] := hl
  refine lv_aload_n hx hb dL_change_0 rfl (lv_at hl 3 rfl) ?_
  refine lv_iconst (v := 0) hx hb dL_change_1 (by decide) ?_
  refine lv_aload_n hx hb dL_change_2 rfl (lv_at hl 0 rfl) ?_
  refine lv_iload_n hx hb dL_change_3 rfl (lv_at hl 1 rfl) ?_
  refine lv_iload_n hx hb dL_change_4 rfl (lv_at hl 2 rfl) ?_
  refine xt_callV (As := [.int p1, .int p2]) (rest := [.int 0, .ref lk]) ⟨hx, hb, hml, hown, xTs⟩ (t_change_2 h b gr br wr ca ro pl z1 z2 z3 p1 f p2 hm ht h0 h1 hi hf) ⟨xB (n := 2) (k_440 h hb0) (k_1 h hb0) (k_437 h hb0) (by decide) rfl rfl rfl (by decide) (by decide), (k_438 h hb0), (k_439 h hb0)⟩ (xpV hb0 hS hz (va_P.sub (hRo _ _ hS) [0, 1, 2] rfl) (va_recv hK (hRo _ _ hS) (ci := 5) (q0 := 0) rfl rfl)) rfl rfl hl.1 rfl (lv_room (Nat.le_of_ble_eq_true rfl)) dL_change_5 ⟨(Nat.le_of_ble_eq_true rfl), (Nat.le_of_ble_eq_true rfl)⟩ (fun q ce H h1 h2 h3 h4 h5 => ?_)
  refine xt_catch hown [] ⟨0, 10, 13, 13⟩ [⟨0, 10, 17, 15⟩] htab xnone rfl (by decide) (k_129 h hb0) (k_143 h hb0) h1 h2 h3 ?_
  have hP := xgrow hP h5
  have hS := xgrowS hS h4 h5
  show W _ _ _ _ _ _ _ _ _ _ _ _ _ _ _ (F0 m 13 ls [.ref q])
  refine lv_astore (lv' := [(4, .ref q), (0, .ref b), (1, .int p1), (2, .int p2), (3, .ref lk)]) hx hb dL_change_13 hl (by decide) rfl (fun ls hl => ?_)
  refine lv_iconst (v := 1) hx hb dL_change_15 (by decide) ?_
  exact W.iret hx hb hr (fun t ht _ => ⟨(some (.int 1)), _, rfl, ⟨rfl, rfl⟩, by rw [ht]; exact hP, hD, hS.F ht⟩) (fun q z => hS.2.2 q z) dL_change_16
set_option maxHeartbeats 4000000 in
set_option maxRecDepth 100000 in
theorem l_c_weigh_0 {l : Launch} {s0 : State} {a0 : Array Value} {dC : Nat → ClassId} {dI : Nat → Nat → Nat} {cA : Nat → ClassId} (h : xC l s0 a0 dC dI cA) (b gr br : Nat) (wr ca : Int32) (ro pl : Nat) (z1 z2 z3 p1 : Int32) (f : Nat → Option Nat) (p2 : Int32) (a : Nat) (v : Int32) (lk : Nat) (lf : Nat → Int64) (sz : Nat) (hm : z1 = 0 ∨ z1 = 1) (ht : ¬ z1 = 0) (h0 : ¬ p1 < 0) (h1 : p1 < z3) (hi : vp_in p1 19) (hf : f p1.toNatClampNeg = some a) : Met l yL_weigh [Cond.codeWith yL_weigh cL_weigh 5 (some .int) [(0, 10, 13, 13), (0, 10, 17, 15)]] ({ frames := 3, cells := 0, slots := 0, locals := 110 } : Room) (xPM s0 (dC, dI) [.ref b, .int p1, .int p2, .ref lk] [(b, .inr (5, [.ref ro, .ref gr, .ref br, .int wr, .int ca])), (br, .inr (1, [.ref pl, .int z1, .int z2, .int z3])), (pl, .inl (cA 8, 19, .inr (.inr (.inr (.inr f))))), (a, .inr (0, [.int v]))] [(lk, .inl (cA 1, 1, .inr (.inl lf)))] sz) (xQM (dC, dI) (va_A [(lk, .inl (cA 1, 1, .inr (.inl lf)))] sz) (fun r w1 => r = some (.int 0) ∧ w1 = [(lk, .inl (cA 1, 1, .inr (.inl (vp_updL lf 0 ((v * 3 + p2).toInt64)))))])) 0 0 (va_A [(lk, .inl (cA 1, 1, .inr (.inl lf)))] sz) := by
  refine va_MetW (cc := cL_weigh) (maxL := 5) (ret := (some .int)) (hh := [(0, 10, 13, 13), (0, 10, 17, 15)]) (by decide) rfl ?_
  intro p e s m args below meth c s₁ B hml hv
  obtain ⟨rfl, rfl, hb0, hPr, hP, hD0⟩ := hv
  have hx := B.exec
  have hb := B.bytes
  have hr := B.returns
  have hown : s.vm.findClass RL = some m.cls := findClass_of_methodNamed B.named
  have hlocks := B.notSynchronized
  have hK := h.K hb0
  have htab : c.exceptionTable.toList = [⟨0, 10, 13, 13⟩, ⟨0, 10, 17, 15⟩] := xtab (k_443 (args := #[]) h hb0) B.named B.method (Stand.of_body B).code
  have hS : va_S (va_A [(lk, .inl (cA 1, 1, .inr (.inl lf)))] s.heap.size) s.heap s.heap [] := va_S.rf
  obtain ⟨A, hAe, hD, hA, hz, hRo, hwk, hnR⟩ := xM_start hb0 hPr hP hD0
  rw [hAe] at hS ⊢
  have hl := lv_entry ([.ref b, .int p1, .int p2, .ref lk]) (n := 5) (Nat.le_of_ble_eq_true rfl)
  rw [lg_entry_eq]
  generalize (lg_sl ([.ref b, .int p1, .int p2, .ref lk]) ++ List.replicate (5 - (lg_sl ([.ref b, .int p1, .int p2, .ref lk])).length) Slot.unset).toArray = ls at hl ⊢
  have hl : lv_has ls 5 [(0, .ref b), (1, .int p1), (2, .int p2), (3, .ref lk)] := hl
  refine lv_aload_n hx hb dL_weigh_0 rfl (lv_at hl 3 rfl) ?_
  refine lv_iconst (v := 0) hx hb dL_weigh_1 (by decide) ?_
  refine lv_aload_n hx hb dL_weigh_2 rfl (lv_at hl 0 rfl) ?_
  refine lv_iload_n hx hb dL_weigh_3 rfl (lv_at hl 1 rfl) ?_
  refine lv_iload_n hx hb dL_weigh_4 rfl (lv_at hl 2 rfl) ?_
  refine xr_1 (va_runV (As := [.int p1, .int p2]) (rest := [.int 0, .ref lk]) ⟨hx, hb, hml, hown, xTs⟩ (c_weigh_0 h b gr br wr ca ro pl z1 z2 z3 p1 f p2 a v hm ht h0 h1 hi hf) ⟨xB (n := 2) (k_447 h hb0) (k_1 h hb0) (k_444 h hb0) (by decide) rfl rfl rfl (by decide) (by decide), (k_445 h hb0), (k_446 h hb0)⟩ (xpV hb0 hS hz (va_P.sub (hRo _ _ hS) [0, 1, 2, 3] rfl) (va_recv hK (hRo _ _ hS) (ci := 5) (q0 := 0) rfl rfl)) rfl rfl hl.1 rfl (lv_room (Nat.le_of_ble_eq_true rfl)) dL_weigh_5 ⟨(Nat.le_of_ble_eq_true rfl), (Nat.le_of_ble_eq_true rfl)⟩) ?_
  refine lv_i2l hx hb dL_weigh_8 rfl ?_
  refine va_last hx hb hK hP hD hS 0 1 rfl rfl xin0 dL_weigh_9 (fun H locs hP hD hS => ?_)
  have hP : va_P (dC, dI) vwCl [(lk, .inl (cA 1, 1, .inr (.inl (vp_updL lf (0 : Int32).toNatClampNeg ((v * 3 + p2).toInt64)))))] H := hP
  have hD : va_D A [(lk, .inl (cA 1, 1, .inr (.inl (vp_updL lf (0 : Int32).toNatClampNeg ((v * 3 + p2).toInt64)))))] := hD
  refine lv_goto (tgt := 21) hx hb dL_weigh_10 (by decide) ?_
  refine lv_iconst (v := 0) hx hb dL_weigh_21 (by decide) ?_
  exact W.iret hx hb hr (fun t ht _ => ⟨(some (.int 0)), _, rfl, ⟨rfl, rfl⟩, by rw [ht]; exact hP, hD, hS.F ht⟩) (fun q z => hS.2.2 q z) dL_weigh_22
set_option maxHeartbeats 4000000 in
set_option maxRecDepth 100000 in
theorem l_c_weigh_2 {l : Launch} {s0 : State} {a0 : Array Value} {dC : Nat → ClassId} {dI : Nat → Nat → Nat} {cA : Nat → ClassId} (h : xC l s0 a0 dC dI cA) (b gr br : Nat) (wr ca : Int32) (ro pl : Nat) (z1 z2 z3 p1 : Int32) (f : Nat → Option Nat) (p2 : Int32) (a : Nat) (v : Int32) (lk : Nat) (lf : Nat → Int64) (sz : Nat) (hm : z1 = 0 ∨ z1 = 1) (ht : ¬ z1 = 0) (h0 : ¬ p1 < 0) (h1 : p1 < z3) (hi : vp_in p1 19) (hf : f p1.toNatClampNeg = some a) : Met l yL_weigh [Cond.codeWith yL_weigh cL_weigh 5 (some .int) [(0, 10, 13, 13), (0, 10, 17, 15)]] ({ frames := 3, cells := 0, slots := 0, locals := 110 } : Room) (xPM s0 (dC, dI) [.ref b, .int p1, .int p2, .ref lk] [(b, .inr (5, [.ref ro, .ref gr, .ref br, .int wr, .int ca])), (br, .inr (1, [.ref pl, .int z1, .int z2, .int z3])), (pl, .inl (cA 8, 19, .inr (.inr (.inr (.inr f))))), (a, .inr (2, [.int v]))] [(lk, .inl (cA 1, 1, .inr (.inl lf)))] sz) (xQM (dC, dI) (va_A [(lk, .inl (cA 1, 1, .inr (.inl lf)))] sz) (fun r w1 => r = some (.int 0) ∧ w1 = [(lk, .inl (cA 1, 1, .inr (.inl (vp_updL lf 0 ((v * 5 - p2).toInt64)))))])) 0 0 (va_A [(lk, .inl (cA 1, 1, .inr (.inl lf)))] sz) := by
  refine va_MetW (cc := cL_weigh) (maxL := 5) (ret := (some .int)) (hh := [(0, 10, 13, 13), (0, 10, 17, 15)]) (by decide) rfl ?_
  intro p e s m args below meth c s₁ B hml hv
  obtain ⟨rfl, rfl, hb0, hPr, hP, hD0⟩ := hv
  have hx := B.exec
  have hb := B.bytes
  have hr := B.returns
  have hown : s.vm.findClass RL = some m.cls := findClass_of_methodNamed B.named
  have hlocks := B.notSynchronized
  have hK := h.K hb0
  have htab : c.exceptionTable.toList = [⟨0, 10, 13, 13⟩, ⟨0, 10, 17, 15⟩] := xtab (k_443 (args := #[]) h hb0) B.named B.method (Stand.of_body B).code
  have hS : va_S (va_A [(lk, .inl (cA 1, 1, .inr (.inl lf)))] s.heap.size) s.heap s.heap [] := va_S.rf
  obtain ⟨A, hAe, hD, hA, hz, hRo, hwk, hnR⟩ := xM_start hb0 hPr hP hD0
  rw [hAe] at hS ⊢
  have hl := lv_entry ([.ref b, .int p1, .int p2, .ref lk]) (n := 5) (Nat.le_of_ble_eq_true rfl)
  rw [lg_entry_eq]
  generalize (lg_sl ([.ref b, .int p1, .int p2, .ref lk]) ++ List.replicate (5 - (lg_sl ([.ref b, .int p1, .int p2, .ref lk])).length) Slot.unset).toArray = ls at hl ⊢
  have hl : lv_has ls 5 [(0, .ref b), (1, .int p1), (2, .int p2), (3, .ref lk)] := hl
  refine lv_aload_n hx hb dL_weigh_0 rfl (lv_at hl 3 rfl) ?_
  refine lv_iconst (v := 0) hx hb dL_weigh_1 (by decide) ?_
  refine lv_aload_n hx hb dL_weigh_2 rfl (lv_at hl 0 rfl) ?_
  refine lv_iload_n hx hb dL_weigh_3 rfl (lv_at hl 1 rfl) ?_
  refine lv_iload_n hx hb dL_weigh_4 rfl (lv_at hl 2 rfl) ?_
  refine xr_1 (va_runV (As := [.int p1, .int p2]) (rest := [.int 0, .ref lk]) ⟨hx, hb, hml, hown, xTs⟩ (c_weigh_2 h b gr br wr ca ro pl z1 z2 z3 p1 f p2 a v hm ht h0 h1 hi hf) ⟨xB (n := 2) (k_447 h hb0) (k_1 h hb0) (k_444 h hb0) (by decide) rfl rfl rfl (by decide) (by decide), (k_445 h hb0), (k_446 h hb0)⟩ (xpV hb0 hS hz (va_P.sub (hRo _ _ hS) [0, 1, 2, 3] rfl) (va_recv hK (hRo _ _ hS) (ci := 5) (q0 := 0) rfl rfl)) rfl rfl hl.1 rfl (lv_room (Nat.le_of_ble_eq_true rfl)) dL_weigh_5 ⟨(Nat.le_of_ble_eq_true rfl), (Nat.le_of_ble_eq_true rfl)⟩) ?_
  refine lv_i2l hx hb dL_weigh_8 rfl ?_
  refine va_last hx hb hK hP hD hS 0 1 rfl rfl xin0 dL_weigh_9 (fun H locs hP hD hS => ?_)
  have hP : va_P (dC, dI) vwCl [(lk, .inl (cA 1, 1, .inr (.inl (vp_updL lf (0 : Int32).toNatClampNeg ((v * 5 - p2).toInt64)))))] H := hP
  have hD : va_D A [(lk, .inl (cA 1, 1, .inr (.inl (vp_updL lf (0 : Int32).toNatClampNeg ((v * 5 - p2).toInt64)))))] := hD
  refine lv_goto (tgt := 21) hx hb dL_weigh_10 (by decide) ?_
  refine lv_iconst (v := 0) hx hb dL_weigh_21 (by decide) ?_
  exact W.iret hx hb hr (fun t ht _ => ⟨(some (.int 0)), _, rfl, ⟨rfl, rfl⟩, by rw [ht]; exact hP, hD, hS.F ht⟩) (fun q z => hS.2.2 q z) dL_weigh_22
set_option maxHeartbeats 4000000 in
set_option maxRecDepth 100000 in
theorem l_t_weigh_N {l : Launch} {s0 : State} {a0 : Array Value} {dC : Nat → ClassId} {dI : Nat → Nat → Nat} {cA : Nat → ClassId} (h : xC l s0 a0 dC dI cA) (b gr br : Nat) (wr ca : Int32) (ro pl : Nat) (z1 z2 z3 p1 : Int32) (f : Nat → Option Nat) (p2 : Int32) (lk : Nat) (lf : Nat → Int64) (sz : Nat) (hm : z1 = 0 ∨ z1 = 1) (ht : z1 = 0) : Met l yL_weigh [Cond.codeWith yL_weigh cL_weigh 5 (some .int) [(0, 10, 13, 13), (0, 10, 17, 15)]] ({ frames := 10, cells := 1, slots := 8, locals := 200 } : Room) (xPM s0 (dC, dI) [.ref b, .int p1, .int p2, .ref lk] [(b, .inr (5, [.ref ro, .ref gr, .ref br, .int wr, .int ca])), (br, .inr (1, [.ref pl, .int z1, .int z2, .int z3])), (pl, .inl (cA 8, 19, .inr (.inr (.inr (.inr f)))))] [(lk, .inl (cA 1, 1, .inr (.inl lf)))] sz) (xQM (dC, dI) (va_A [(lk, .inl (cA 1, 1, .inr (.inl lf)))] sz) (fun r w1 => r = some (.int 1) ∧ w1 = [(lk, .inl (cA 1, 1, .inr (.inl lf)))])) 1 8 (va_A [(lk, .inl (cA 1, 1, .inr (.inl lf)))] sz) := by
  refine va_MetW (cc := cL_weigh) (maxL := 5) (ret := (some .int)) (hh := [(0, 10, 13, 13), (0, 10, 17, 15)]) (by decide) rfl ?_
  intro p e s m args below meth c s₁ B hml hv
  obtain ⟨rfl, rfl, hb0, hPr, hP, hD0⟩ := hv
  have hx := B.exec
  have hb := B.bytes
  have hr := B.returns
  have hown : s.vm.findClass RL = some m.cls := findClass_of_methodNamed B.named
  have hlocks := B.notSynchronized
  have hK := h.K hb0
  have htab : c.exceptionTable.toList = [⟨0, 10, 13, 13⟩, ⟨0, 10, 17, 15⟩] := xtab (k_443 (args := #[]) h hb0) B.named B.method (Stand.of_body B).code
  have hS : va_S (va_A [(lk, .inl (cA 1, 1, .inr (.inl lf)))] s.heap.size) s.heap s.heap [] := va_S.rf
  obtain ⟨A, hAe, hD, hA, hz, hRo, hwk, hnR⟩ := xM_start hb0 hPr hP hD0
  rw [hAe] at hS ⊢
  have hl := lv_entry ([.ref b, .int p1, .int p2, .ref lk]) (n := 5) (Nat.le_of_ble_eq_true rfl)
  rw [lg_entry_eq]
  generalize (lg_sl ([.ref b, .int p1, .int p2, .ref lk]) ++ List.replicate (5 - (lg_sl ([.ref b, .int p1, .int p2, .ref lk])).length) Slot.unset).toArray = ls at hl ⊢
  have hl : lv_has ls 5 [(0, .ref b), (1, .int p1), (2, .int p2), (3, .ref lk)] := hl
  refine lv_aload_n hx hb dL_weigh_0 rfl (lv_at hl 3 rfl) ?_
  refine lv_iconst (v := 0) hx hb dL_weigh_1 (by decide) ?_
  refine lv_aload_n hx hb dL_weigh_2 rfl (lv_at hl 0 rfl) ?_
  refine lv_iload_n hx hb dL_weigh_3 rfl (lv_at hl 1 rfl) ?_
  refine lv_iload_n hx hb dL_weigh_4 rfl (lv_at hl 2 rfl) ?_
  refine xt_callV (As := [.int p1, .int p2]) (rest := [.int 0, .ref lk]) ⟨hx, hb, hml, hown, xTs⟩ (t_weigh_N h b gr br wr ca ro pl z1 z2 z3 p1 f p2 hm ht) ⟨xB (n := 2) (k_447 h hb0) (k_1 h hb0) (k_444 h hb0) (by decide) rfl rfl rfl (by decide) (by decide), (k_445 h hb0), (k_446 h hb0)⟩ (xpV hb0 hS hz (va_P.sub (hRo _ _ hS) [0, 1, 2] rfl) (va_recv hK (hRo _ _ hS) (ci := 5) (q0 := 0) rfl rfl)) rfl rfl hl.1 rfl (lv_room (Nat.le_of_ble_eq_true rfl)) dL_weigh_5 ⟨(Nat.le_of_ble_eq_true rfl), (Nat.le_of_ble_eq_true rfl)⟩ (fun q ce H h1 h2 h3 h4 h5 => ?_)
  refine xt_catch hown [] ⟨0, 10, 13, 13⟩ [⟨0, 10, 17, 15⟩] htab xnone rfl (by decide) (k_129 h hb0) (k_143 h hb0) h1 h2 h3 ?_
  have hP := xgrow hP h5
  have hS := xgrowS hS h4 h5
  show W _ _ _ _ _ _ _ _ _ _ _ _ _ _ _ (F0 m 13 ls [.ref q])
  refine lv_astore (lv' := [(4, .ref q), (0, .ref b), (1, .int p1), (2, .int p2), (3, .ref lk)]) hx hb dL_weigh_13 hl (by decide) rfl (fun ls hl => ?_)
  refine lv_iconst (v := 1) hx hb dL_weigh_15 (by decide) ?_
  exact W.iret hx hb hr (fun t ht _ => ⟨(some (.int 1)), _, rfl, ⟨rfl, rfl⟩, by rw [ht]; exact hP, hD, hS.F ht⟩) (fun q z => hS.2.2 q z) dL_weigh_16
set_option maxHeartbeats 4000000 in
set_option maxRecDepth 100000 in
theorem l_t_weigh_A {l : Launch} {s0 : State} {a0 : Array Value} {dC : Nat → ClassId} {dI : Nat → Nat → Nat} {cA : Nat → ClassId} (h : xC l s0 a0 dC dI cA) (b gr br : Nat) (wr ca : Int32) (ro pl : Nat) (z1 z2 z3 p1 : Int32) (f : Nat → Option Nat) (p2 : Int32) (lk : Nat) (lf : Nat → Int64) (sz : Nat) (hm : z1 = 0 ∨ z1 = 1) (ht : ¬ z1 = 0) (hc : p1 < 0 ∨ ¬ p1 < z3) : Met l yL_weigh [Cond.codeWith yL_weigh cL_weigh 5 (some .int) [(0, 10, 13, 13), (0, 10, 17, 15)]] ({ frames := 10, cells := 1, slots := 8, locals := 200 } : Room) (xPM s0 (dC, dI) [.ref b, .int p1, .int p2, .ref lk] [(b, .inr (5, [.ref ro, .ref gr, .ref br, .int wr, .int ca])), (br, .inr (1, [.ref pl, .int z1, .int z2, .int z3])), (pl, .inl (cA 8, 19, .inr (.inr (.inr (.inr f)))))] [(lk, .inl (cA 1, 1, .inr (.inl lf)))] sz) (xQM (dC, dI) (va_A [(lk, .inl (cA 1, 1, .inr (.inl lf)))] sz) (fun r w1 => r = some (.int 2) ∧ w1 = [(lk, .inl (cA 1, 1, .inr (.inl lf)))])) 1 8 (va_A [(lk, .inl (cA 1, 1, .inr (.inl lf)))] sz) := by
  refine va_MetW (cc := cL_weigh) (maxL := 5) (ret := (some .int)) (hh := [(0, 10, 13, 13), (0, 10, 17, 15)]) (by decide) rfl ?_
  intro p e s m args below meth c s₁ B hml hv
  obtain ⟨rfl, rfl, hb0, hPr, hP, hD0⟩ := hv
  have hx := B.exec
  have hb := B.bytes
  have hr := B.returns
  have hown : s.vm.findClass RL = some m.cls := findClass_of_methodNamed B.named
  have hlocks := B.notSynchronized
  have hK := h.K hb0
  have htab : c.exceptionTable.toList = [⟨0, 10, 13, 13⟩, ⟨0, 10, 17, 15⟩] := xtab (k_443 (args := #[]) h hb0) B.named B.method (Stand.of_body B).code
  have hS : va_S (va_A [(lk, .inl (cA 1, 1, .inr (.inl lf)))] s.heap.size) s.heap s.heap [] := va_S.rf
  obtain ⟨A, hAe, hD, hA, hz, hRo, hwk, hnR⟩ := xM_start hb0 hPr hP hD0
  rw [hAe] at hS ⊢
  have hl := lv_entry ([.ref b, .int p1, .int p2, .ref lk]) (n := 5) (Nat.le_of_ble_eq_true rfl)
  rw [lg_entry_eq]
  generalize (lg_sl ([.ref b, .int p1, .int p2, .ref lk]) ++ List.replicate (5 - (lg_sl ([.ref b, .int p1, .int p2, .ref lk])).length) Slot.unset).toArray = ls at hl ⊢
  have hl : lv_has ls 5 [(0, .ref b), (1, .int p1), (2, .int p2), (3, .ref lk)] := hl
  refine lv_aload_n hx hb dL_weigh_0 rfl (lv_at hl 3 rfl) ?_
  refine lv_iconst (v := 0) hx hb dL_weigh_1 (by decide) ?_
  refine lv_aload_n hx hb dL_weigh_2 rfl (lv_at hl 0 rfl) ?_
  refine lv_iload_n hx hb dL_weigh_3 rfl (lv_at hl 1 rfl) ?_
  refine lv_iload_n hx hb dL_weigh_4 rfl (lv_at hl 2 rfl) ?_
  refine xt_callV (As := [.int p1, .int p2]) (rest := [.int 0, .ref lk]) ⟨hx, hb, hml, hown, xTs⟩ (t_weigh_A h b gr br wr ca ro pl z1 z2 z3 p1 f p2 hm ht hc) ⟨xB (n := 2) (k_447 h hb0) (k_1 h hb0) (k_444 h hb0) (by decide) rfl rfl rfl (by decide) (by decide), (k_445 h hb0), (k_446 h hb0)⟩ (xpV hb0 hS hz (va_P.sub (hRo _ _ hS) [0, 1, 2] rfl) (va_recv hK (hRo _ _ hS) (ci := 5) (q0 := 0) rfl rfl)) rfl rfl hl.1 rfl (lv_room (Nat.le_of_ble_eq_true rfl)) dL_weigh_5 ⟨(Nat.le_of_ble_eq_true rfl), (Nat.le_of_ble_eq_true rfl)⟩ (fun q ce H h1 h2 h3 h4 h5 => ?_)
  refine xt_catch hown [⟨0, 10, 13, 13⟩] ⟨0, 10, 17, 15⟩ [] htab (fun z hz2 => by rw [List.mem_singleton] at hz2; rw [hz2]; exact ⟨rfl, by decide, _, k_129 h hb0, nc_IN h hb0⟩) rfl (by decide) (k_130 h hb0) (k_235 h hb0) h1 h2 h3 ?_
  have hP := xgrow hP h5
  have hS := xgrowS hS h4 h5
  show W _ _ _ _ _ _ _ _ _ _ _ _ _ _ _ (F0 m 17 ls [.ref q])
  refine lv_astore (lv' := [(4, .ref q), (0, .ref b), (1, .int p1), (2, .int p2), (3, .ref lk)]) hx hb dL_weigh_17 hl (by decide) rfl (fun ls hl => ?_)
  refine lv_iconst (v := 2) hx hb dL_weigh_19 (by decide) ?_
  exact W.iret hx hb hr (fun t ht _ => ⟨(some (.int 2)), _, rfl, ⟨rfl, rfl⟩, by rw [ht]; exact hP, hD, hS.F ht⟩) (fun q z => hS.2.2 q z) dL_weigh_20
set_option maxHeartbeats 4000000 in
set_option maxRecDepth 100000 in
theorem l_t_weigh_2 {l : Launch} {s0 : State} {a0 : Array Value} {dC : Nat → ClassId} {dI : Nat → Nat → Nat} {cA : Nat → ClassId} (h : xC l s0 a0 dC dI cA) (b gr br : Nat) (wr ca : Int32) (ro pl : Nat) (z1 z2 z3 p1 : Int32) (f : Nat → Option Nat) (p2 : Int32) (lk : Nat) (lf : Nat → Int64) (sz : Nat) (hm : z1 = 0 ∨ z1 = 1) (ht : ¬ z1 = 0) (h0 : ¬ p1 < 0) (h1 : p1 < z3) (hi : vp_in p1 19) (hf : f p1.toNatClampNeg = none) : Met l yL_weigh [Cond.codeWith yL_weigh cL_weigh 5 (some .int) [(0, 10, 13, 13), (0, 10, 17, 15)]] ({ frames := 10, cells := 1, slots := 8, locals := 200 } : Room) (xPM s0 (dC, dI) [.ref b, .int p1, .int p2, .ref lk] [(b, .inr (5, [.ref ro, .ref gr, .ref br, .int wr, .int ca])), (br, .inr (1, [.ref pl, .int z1, .int z2, .int z3])), (pl, .inl (cA 8, 19, .inr (.inr (.inr (.inr f)))))] [(lk, .inl (cA 1, 1, .inr (.inl lf)))] sz) (xQM (dC, dI) (va_A [(lk, .inl (cA 1, 1, .inr (.inl lf)))] sz) (fun r w1 => r = some (.int 1) ∧ w1 = [(lk, .inl (cA 1, 1, .inr (.inl lf)))])) 1 8 (va_A [(lk, .inl (cA 1, 1, .inr (.inl lf)))] sz) := by
  refine va_MetW (cc := cL_weigh) (maxL := 5) (ret := (some .int)) (hh := [(0, 10, 13, 13), (0, 10, 17, 15)]) (by decide) rfl ?_
  intro p e s m args below meth c s₁ B hml hv
  obtain ⟨rfl, rfl, hb0, hPr, hP, hD0⟩ := hv
  have hx := B.exec
  have hb := B.bytes
  have hr := B.returns
  have hown : s.vm.findClass RL = some m.cls := findClass_of_methodNamed B.named
  have hlocks := B.notSynchronized
  have hK := h.K hb0
  have htab : c.exceptionTable.toList = [⟨0, 10, 13, 13⟩, ⟨0, 10, 17, 15⟩] := xtab (k_443 (args := #[]) h hb0) B.named B.method (Stand.of_body B).code
  have hS : va_S (va_A [(lk, .inl (cA 1, 1, .inr (.inl lf)))] s.heap.size) s.heap s.heap [] := va_S.rf
  obtain ⟨A, hAe, hD, hA, hz, hRo, hwk, hnR⟩ := xM_start hb0 hPr hP hD0
  rw [hAe] at hS ⊢
  have hl := lv_entry ([.ref b, .int p1, .int p2, .ref lk]) (n := 5) (Nat.le_of_ble_eq_true rfl)
  rw [lg_entry_eq]
  generalize (lg_sl ([.ref b, .int p1, .int p2, .ref lk]) ++ List.replicate (5 - (lg_sl ([.ref b, .int p1, .int p2, .ref lk])).length) Slot.unset).toArray = ls at hl ⊢
  have hl : lv_has ls 5 [(0, .ref b), (1, .int p1), (2, .int p2), (3, .ref lk)] := hl
  refine lv_aload_n hx hb dL_weigh_0 rfl (lv_at hl 3 rfl) ?_
  refine lv_iconst (v := 0) hx hb dL_weigh_1 (by decide) ?_
  refine lv_aload_n hx hb dL_weigh_2 rfl (lv_at hl 0 rfl) ?_
  refine lv_iload_n hx hb dL_weigh_3 rfl (lv_at hl 1 rfl) ?_
  refine lv_iload_n hx hb dL_weigh_4 rfl (lv_at hl 2 rfl) ?_
  refine xt_callV (As := [.int p1, .int p2]) (rest := [.int 0, .ref lk]) ⟨hx, hb, hml, hown, xTs⟩ (t_weigh_2 h b gr br wr ca ro pl z1 z2 z3 p1 f p2 hm ht h0 h1 hi hf) ⟨xB (n := 2) (k_447 h hb0) (k_1 h hb0) (k_444 h hb0) (by decide) rfl rfl rfl (by decide) (by decide), (k_445 h hb0), (k_446 h hb0)⟩ (xpV hb0 hS hz (va_P.sub (hRo _ _ hS) [0, 1, 2] rfl) (va_recv hK (hRo _ _ hS) (ci := 5) (q0 := 0) rfl rfl)) rfl rfl hl.1 rfl (lv_room (Nat.le_of_ble_eq_true rfl)) dL_weigh_5 ⟨(Nat.le_of_ble_eq_true rfl), (Nat.le_of_ble_eq_true rfl)⟩ (fun q ce H h1 h2 h3 h4 h5 => ?_)
  refine xt_catch hown [] ⟨0, 10, 13, 13⟩ [⟨0, 10, 17, 15⟩] htab xnone rfl (by decide) (k_129 h hb0) (k_143 h hb0) h1 h2 h3 ?_
  have hP := xgrow hP h5
  have hS := xgrowS hS h4 h5
  show W _ _ _ _ _ _ _ _ _ _ _ _ _ _ _ (F0 m 13 ls [.ref q])
  refine lv_astore (lv' := [(4, .ref q), (0, .ref b), (1, .int p1), (2, .int p2), (3, .ref lk)]) hx hb dL_weigh_13 hl (by decide) rfl (fun ls hl => ?_)
  refine lv_iconst (v := 1) hx hb dL_weigh_15 (by decide) ?_
  exact W.iret hx hb hr (fun t ht _ => ⟨(some (.int 1)), _, rfl, ⟨rfl, rfl⟩, by rw [ht]; exact hP, hD, hS.F ht⟩) (fun q z => hS.2.2 q z) dL_weigh_16
set_option maxHeartbeats 4000000 in
set_option maxRecDepth 100000 in
theorem l_c_roll_2 {l : Launch} {s0 : State} {a0 : Array Value} {dC : Nat → ClassId} {dI : Nat → Nat → Nat} {cA : Nat → ClassId} (h : xC l s0 a0 dC dI cA) (b gr br : Nat) (wr ca : Int32) (ro pl : Nat) (z1 z2 z3 p1 : Int32) (f : Nat → Option Nat) (p2 : Int32) (a : Nat) (v : Int32) (lk : Nat) (lf : Nat → Int64) (sz : Nat) (hm : z1 = 0 ∨ z1 = 1) (ht : ¬ z1 = 0) (h0 : ¬ p1 < 0) (h1 : p1 < z3) (hi : vp_in p1 19) (hf : f p1.toNatClampNeg = some a) : Met l yL_roll [Cond.codeWith yL_roll cL_roll 5 (some .int) [(0, 10, 13, 13), (0, 10, 17, 15), (0, 10, 21, 59)]] ({ frames := 3, cells := 0, slots := 0, locals := 110 } : Room) (xPM s0 (dC, dI) [.ref b, .int p1, .int p2, .ref lk] [(b, .inr (5, [.ref ro, .ref gr, .ref br, .int wr, .int ca])), (br, .inr (1, [.ref pl, .int z1, .int z2, .int z3])), (pl, .inl (cA 8, 19, .inr (.inr (.inr (.inr f))))), (a, .inr (2, [.int v]))] [(lk, .inl (cA 1, 1, .inr (.inl lf)))] sz) (xQM (dC, dI) (va_A [(lk, .inl (cA 1, 1, .inr (.inl lf)))] sz) (fun r w1 => r = some (.int 0) ∧ w1 = [(lk, .inl (cA 1, 1, .inr (.inl (vp_updL lf 0 ((v ^^^ p2).toInt64)))))])) 0 0 (va_A [(lk, .inl (cA 1, 1, .inr (.inl lf)))] sz) := by
  refine va_MetW (cc := cL_roll) (maxL := 5) (ret := (some .int)) (hh := [(0, 10, 13, 13), (0, 10, 17, 15), (0, 10, 21, 59)]) (by decide) rfl ?_
  intro p e s m args below meth c s₁ B hml hv
  obtain ⟨rfl, rfl, hb0, hPr, hP, hD0⟩ := hv
  have hx := B.exec
  have hb := B.bytes
  have hr := B.returns
  have hown : s.vm.findClass RL = some m.cls := findClass_of_methodNamed B.named
  have hlocks := B.notSynchronized
  have hK := h.K hb0
  have htab : c.exceptionTable.toList = [⟨0, 10, 13, 13⟩, ⟨0, 10, 17, 15⟩, ⟨0, 10, 21, 59⟩] := xtab (k_458 (args := #[]) h hb0) B.named B.method (Stand.of_body B).code
  have hS : va_S (va_A [(lk, .inl (cA 1, 1, .inr (.inl lf)))] s.heap.size) s.heap s.heap [] := va_S.rf
  obtain ⟨A, hAe, hD, hA, hz, hRo, hwk, hnR⟩ := xM_start hb0 hPr hP hD0
  rw [hAe] at hS ⊢
  have hl := lv_entry ([.ref b, .int p1, .int p2, .ref lk]) (n := 5) (Nat.le_of_ble_eq_true rfl)
  rw [lg_entry_eq]
  generalize (lg_sl ([.ref b, .int p1, .int p2, .ref lk]) ++ List.replicate (5 - (lg_sl ([.ref b, .int p1, .int p2, .ref lk])).length) Slot.unset).toArray = ls at hl ⊢
  have hl : lv_has ls 5 [(0, .ref b), (1, .int p1), (2, .int p2), (3, .ref lk)] := hl
  refine lv_aload_n hx hb dL_roll_0 rfl (lv_at hl 3 rfl) ?_
  refine lv_iconst (v := 0) hx hb dL_roll_1 (by decide) ?_
  refine lv_aload_n hx hb dL_roll_2 rfl (lv_at hl 0 rfl) ?_
  refine lv_iload_n hx hb dL_roll_3 rfl (lv_at hl 1 rfl) ?_
  refine lv_iload_n hx hb dL_roll_4 rfl (lv_at hl 2 rfl) ?_
  refine xr_1 (va_runV (As := [.int p1, .int p2]) (rest := [.int 0, .ref lk]) ⟨hx, hb, hml, hown, xTs⟩ (c_roll_2 h b gr br wr ca ro pl z1 z2 z3 p1 f p2 a v hm ht h0 h1 hi hf) ⟨xB (n := 2) (k_463 h hb0) (k_1 h hb0) (k_460 h hb0) (by decide) rfl rfl rfl (by decide) (by decide), (k_461 h hb0), (k_462 h hb0)⟩ (xpV hb0 hS hz (va_P.sub (hRo _ _ hS) [0, 1, 2, 3] rfl) (va_recv hK (hRo _ _ hS) (ci := 5) (q0 := 0) rfl rfl)) rfl rfl hl.1 rfl (lv_room (Nat.le_of_ble_eq_true rfl)) dL_roll_5 ⟨(Nat.le_of_ble_eq_true rfl), (Nat.le_of_ble_eq_true rfl)⟩) ?_
  refine lv_i2l hx hb dL_roll_8 rfl ?_
  refine va_last hx hb hK hP hD hS 0 1 rfl rfl xin0 dL_roll_9 (fun H locs hP hD hS => ?_)
  have hP : va_P (dC, dI) vwCl [(lk, .inl (cA 1, 1, .inr (.inl (vp_updL lf (0 : Int32).toNatClampNeg ((v ^^^ p2).toInt64)))))] H := hP
  have hD : va_D A [(lk, .inl (cA 1, 1, .inr (.inl (vp_updL lf (0 : Int32).toNatClampNeg ((v ^^^ p2).toInt64)))))] := hD
  refine lv_goto (tgt := 25) hx hb dL_roll_10 (by decide) ?_
  refine lv_iconst (v := 0) hx hb dL_roll_25 (by decide) ?_
  exact W.iret hx hb hr (fun t ht _ => ⟨(some (.int 0)), _, rfl, ⟨rfl, rfl⟩, by rw [ht]; exact hP, hD, hS.F ht⟩) (fun q z => hS.2.2 q z) dL_roll_26
set_option maxHeartbeats 4000000 in
set_option maxRecDepth 100000 in
theorem l_t_roll_C {l : Launch} {s0 : State} {a0 : Array Value} {dC : Nat → ClassId} {dI : Nat → Nat → Nat} {cA : Nat → ClassId} (h : xC l s0 a0 dC dI cA) (b gr br : Nat) (wr ca : Int32) (ro pl : Nat) (z1 z2 z3 p1 : Int32) (f : Nat → Option Nat) (p2 : Int32) (a : Nat) (v : Int32) (lk : Nat) (lf : Nat → Int64) (sz : Nat) (hm : z1 = 0 ∨ z1 = 1) (ht : ¬ z1 = 0) (h0 : ¬ p1 < 0) (h1 : p1 < z3) (hi : vp_in p1 19) (hf : f p1.toNatClampNeg = some a) : Met l yL_roll [Cond.codeWith yL_roll cL_roll 5 (some .int) [(0, 10, 13, 13), (0, 10, 17, 15), (0, 10, 21, 59)]] ({ frames := 10, cells := 1, slots := 8, locals := 200 } : Room) (xPM s0 (dC, dI) [.ref b, .int p1, .int p2, .ref lk] [(b, .inr (5, [.ref ro, .ref gr, .ref br, .int wr, .int ca])), (br, .inr (1, [.ref pl, .int z1, .int z2, .int z3])), (pl, .inl (cA 8, 19, .inr (.inr (.inr (.inr f))))), (a, .inr (0, [.int v]))] [(lk, .inl (cA 1, 1, .inr (.inl lf)))] sz) (xQM (dC, dI) (va_A [(lk, .inl (cA 1, 1, .inr (.inl lf)))] sz) (fun r w1 => r = some (.int 3) ∧ w1 = [(lk, .inl (cA 1, 1, .inr (.inl lf)))])) 1 8 (va_A [(lk, .inl (cA 1, 1, .inr (.inl lf)))] sz) := by
  refine va_MetW (cc := cL_roll) (maxL := 5) (ret := (some .int)) (hh := [(0, 10, 13, 13), (0, 10, 17, 15), (0, 10, 21, 59)]) (by decide) rfl ?_
  intro p e s m args below meth c s₁ B hml hv
  obtain ⟨rfl, rfl, hb0, hPr, hP, hD0⟩ := hv
  have hx := B.exec
  have hb := B.bytes
  have hr := B.returns
  have hown : s.vm.findClass RL = some m.cls := findClass_of_methodNamed B.named
  have hlocks := B.notSynchronized
  have hK := h.K hb0
  have htab : c.exceptionTable.toList = [⟨0, 10, 13, 13⟩, ⟨0, 10, 17, 15⟩, ⟨0, 10, 21, 59⟩] := xtab (k_458 (args := #[]) h hb0) B.named B.method (Stand.of_body B).code
  have hS : va_S (va_A [(lk, .inl (cA 1, 1, .inr (.inl lf)))] s.heap.size) s.heap s.heap [] := va_S.rf
  obtain ⟨A, hAe, hD, hA, hz, hRo, hwk, hnR⟩ := xM_start hb0 hPr hP hD0
  rw [hAe] at hS ⊢
  have hl := lv_entry ([.ref b, .int p1, .int p2, .ref lk]) (n := 5) (Nat.le_of_ble_eq_true rfl)
  rw [lg_entry_eq]
  generalize (lg_sl ([.ref b, .int p1, .int p2, .ref lk]) ++ List.replicate (5 - (lg_sl ([.ref b, .int p1, .int p2, .ref lk])).length) Slot.unset).toArray = ls at hl ⊢
  have hl : lv_has ls 5 [(0, .ref b), (1, .int p1), (2, .int p2), (3, .ref lk)] := hl
  refine lv_aload_n hx hb dL_roll_0 rfl (lv_at hl 3 rfl) ?_
  refine lv_iconst (v := 0) hx hb dL_roll_1 (by decide) ?_
  refine lv_aload_n hx hb dL_roll_2 rfl (lv_at hl 0 rfl) ?_
  refine lv_iload_n hx hb dL_roll_3 rfl (lv_at hl 1 rfl) ?_
  refine lv_iload_n hx hb dL_roll_4 rfl (lv_at hl 2 rfl) ?_
  refine xt_callV (As := [.int p1, .int p2]) (rest := [.int 0, .ref lk]) ⟨hx, hb, hml, hown, xTs⟩ (t_roll_C h b gr br wr ca ro pl z1 z2 z3 p1 f p2 a v hm ht h0 h1 hi hf) ⟨xB (n := 2) (k_463 h hb0) (k_1 h hb0) (k_460 h hb0) (by decide) rfl rfl rfl (by decide) (by decide), (k_461 h hb0), (k_462 h hb0)⟩ (xpV hb0 hS hz (va_P.sub (hRo _ _ hS) [0, 1, 2, 3] rfl) (va_recv hK (hRo _ _ hS) (ci := 5) (q0 := 0) rfl rfl)) rfl rfl hl.1 rfl (lv_room (Nat.le_of_ble_eq_true rfl)) dL_roll_5 ⟨(Nat.le_of_ble_eq_true rfl), (Nat.le_of_ble_eq_true rfl)⟩ (fun q ce H h1 h2 h3 h4 h5 => ?_)
  refine xt_catch hown [⟨0, 10, 13, 13⟩, ⟨0, 10, 17, 15⟩] ⟨0, 10, 21, 59⟩ [] htab (fun z hz2 => by simp only [List.mem_cons, List.not_mem_nil, or_false] at hz2; rcases hz2 with rfl | rfl; exact ⟨rfl, by decide, _, k_129 h hb0, nc_CN h hb0⟩; exact ⟨rfl, by decide, _, k_130 h hb0, nc_CI h hb0⟩) rfl (by decide) (k_459 h hb0) (k_470 h hb0) h1 h2 h3 ?_
  have hP := xgrow hP h5
  have hS := xgrowS hS h4 h5
  show W _ _ _ _ _ _ _ _ _ _ _ _ _ _ _ (F0 m 21 ls [.ref q])
  refine lv_astore (lv' := [(4, .ref q), (0, .ref b), (1, .int p1), (2, .int p2), (3, .ref lk)]) hx hb dL_roll_21 hl (by decide) rfl (fun ls hl => ?_)
  refine lv_iconst (v := 3) hx hb dL_roll_23 (by decide) ?_
  exact W.iret hx hb hr (fun t ht _ => ⟨(some (.int 3)), _, rfl, ⟨rfl, rfl⟩, by rw [ht]; exact hP, hD, hS.F ht⟩) (fun q z => hS.2.2 q z) dL_roll_24
set_option maxHeartbeats 4000000 in
set_option maxRecDepth 100000 in
theorem l_t_roll_N {l : Launch} {s0 : State} {a0 : Array Value} {dC : Nat → ClassId} {dI : Nat → Nat → Nat} {cA : Nat → ClassId} (h : xC l s0 a0 dC dI cA) (b gr br : Nat) (wr ca : Int32) (ro pl : Nat) (z1 z2 z3 p1 : Int32) (f : Nat → Option Nat) (p2 : Int32) (lk : Nat) (lf : Nat → Int64) (sz : Nat) (hm : z1 = 0 ∨ z1 = 1) (ht : z1 = 0) : Met l yL_roll [Cond.codeWith yL_roll cL_roll 5 (some .int) [(0, 10, 13, 13), (0, 10, 17, 15), (0, 10, 21, 59)]] ({ frames := 10, cells := 1, slots := 8, locals := 200 } : Room) (xPM s0 (dC, dI) [.ref b, .int p1, .int p2, .ref lk] [(b, .inr (5, [.ref ro, .ref gr, .ref br, .int wr, .int ca])), (br, .inr (1, [.ref pl, .int z1, .int z2, .int z3])), (pl, .inl (cA 8, 19, .inr (.inr (.inr (.inr f)))))] [(lk, .inl (cA 1, 1, .inr (.inl lf)))] sz) (xQM (dC, dI) (va_A [(lk, .inl (cA 1, 1, .inr (.inl lf)))] sz) (fun r w1 => r = some (.int 1) ∧ w1 = [(lk, .inl (cA 1, 1, .inr (.inl lf)))])) 1 8 (va_A [(lk, .inl (cA 1, 1, .inr (.inl lf)))] sz) := by
  refine va_MetW (cc := cL_roll) (maxL := 5) (ret := (some .int)) (hh := [(0, 10, 13, 13), (0, 10, 17, 15), (0, 10, 21, 59)]) (by decide) rfl ?_
  intro p e s m args below meth c s₁ B hml hv
  obtain ⟨rfl, rfl, hb0, hPr, hP, hD0⟩ := hv
  have hx := B.exec
  have hb := B.bytes
  have hr := B.returns
  have hown : s.vm.findClass RL = some m.cls := findClass_of_methodNamed B.named
  have hlocks := B.notSynchronized
  have hK := h.K hb0
  have htab : c.exceptionTable.toList = [⟨0, 10, 13, 13⟩, ⟨0, 10, 17, 15⟩, ⟨0, 10, 21, 59⟩] := xtab (k_458 (args := #[]) h hb0) B.named B.method (Stand.of_body B).code
  have hS : va_S (va_A [(lk, .inl (cA 1, 1, .inr (.inl lf)))] s.heap.size) s.heap s.heap [] := va_S.rf
  obtain ⟨A, hAe, hD, hA, hz, hRo, hwk, hnR⟩ := xM_start hb0 hPr hP hD0
  rw [hAe] at hS ⊢
  have hl := lv_entry ([.ref b, .int p1, .int p2, .ref lk]) (n := 5) (Nat.le_of_ble_eq_true rfl)
  rw [lg_entry_eq]
  generalize (lg_sl ([.ref b, .int p1, .int p2, .ref lk]) ++ List.replicate (5 - (lg_sl ([.ref b, .int p1, .int p2, .ref lk])).length) Slot.unset).toArray = ls at hl ⊢
  have hl : lv_has ls 5 [(0, .ref b), (1, .int p1), (2, .int p2), (3, .ref lk)] := hl
  refine lv_aload_n hx hb dL_roll_0 rfl (lv_at hl 3 rfl) ?_
  refine lv_iconst (v := 0) hx hb dL_roll_1 (by decide) ?_
  refine lv_aload_n hx hb dL_roll_2 rfl (lv_at hl 0 rfl) ?_
  refine lv_iload_n hx hb dL_roll_3 rfl (lv_at hl 1 rfl) ?_
  refine lv_iload_n hx hb dL_roll_4 rfl (lv_at hl 2 rfl) ?_
  refine xt_callV (As := [.int p1, .int p2]) (rest := [.int 0, .ref lk]) ⟨hx, hb, hml, hown, xTs⟩ (t_roll_N h b gr br wr ca ro pl z1 z2 z3 p1 f p2 hm ht) ⟨xB (n := 2) (k_463 h hb0) (k_1 h hb0) (k_460 h hb0) (by decide) rfl rfl rfl (by decide) (by decide), (k_461 h hb0), (k_462 h hb0)⟩ (xpV hb0 hS hz (va_P.sub (hRo _ _ hS) [0, 1, 2] rfl) (va_recv hK (hRo _ _ hS) (ci := 5) (q0 := 0) rfl rfl)) rfl rfl hl.1 rfl (lv_room (Nat.le_of_ble_eq_true rfl)) dL_roll_5 ⟨(Nat.le_of_ble_eq_true rfl), (Nat.le_of_ble_eq_true rfl)⟩ (fun q ce H h1 h2 h3 h4 h5 => ?_)
  refine xt_catch hown [] ⟨0, 10, 13, 13⟩ [⟨0, 10, 17, 15⟩, ⟨0, 10, 21, 59⟩] htab xnone rfl (by decide) (k_129 h hb0) (k_143 h hb0) h1 h2 h3 ?_
  have hP := xgrow hP h5
  have hS := xgrowS hS h4 h5
  show W _ _ _ _ _ _ _ _ _ _ _ _ _ _ _ (F0 m 13 ls [.ref q])
  refine lv_astore (lv' := [(4, .ref q), (0, .ref b), (1, .int p1), (2, .int p2), (3, .ref lk)]) hx hb dL_roll_13 hl (by decide) rfl (fun ls hl => ?_)
  refine lv_iconst (v := 1) hx hb dL_roll_15 (by decide) ?_
  exact W.iret hx hb hr (fun t ht _ => ⟨(some (.int 1)), _, rfl, ⟨rfl, rfl⟩, by rw [ht]; exact hP, hD, hS.F ht⟩) (fun q z => hS.2.2 q z) dL_roll_16
set_option maxHeartbeats 4000000 in
set_option maxRecDepth 100000 in
theorem l_t_roll_A {l : Launch} {s0 : State} {a0 : Array Value} {dC : Nat → ClassId} {dI : Nat → Nat → Nat} {cA : Nat → ClassId} (h : xC l s0 a0 dC dI cA) (b gr br : Nat) (wr ca : Int32) (ro pl : Nat) (z1 z2 z3 p1 : Int32) (f : Nat → Option Nat) (p2 : Int32) (lk : Nat) (lf : Nat → Int64) (sz : Nat) (hm : z1 = 0 ∨ z1 = 1) (ht : ¬ z1 = 0) (hc : p1 < 0 ∨ ¬ p1 < z3) : Met l yL_roll [Cond.codeWith yL_roll cL_roll 5 (some .int) [(0, 10, 13, 13), (0, 10, 17, 15), (0, 10, 21, 59)]] ({ frames := 10, cells := 1, slots := 8, locals := 200 } : Room) (xPM s0 (dC, dI) [.ref b, .int p1, .int p2, .ref lk] [(b, .inr (5, [.ref ro, .ref gr, .ref br, .int wr, .int ca])), (br, .inr (1, [.ref pl, .int z1, .int z2, .int z3])), (pl, .inl (cA 8, 19, .inr (.inr (.inr (.inr f)))))] [(lk, .inl (cA 1, 1, .inr (.inl lf)))] sz) (xQM (dC, dI) (va_A [(lk, .inl (cA 1, 1, .inr (.inl lf)))] sz) (fun r w1 => r = some (.int 2) ∧ w1 = [(lk, .inl (cA 1, 1, .inr (.inl lf)))])) 1 8 (va_A [(lk, .inl (cA 1, 1, .inr (.inl lf)))] sz) := by
  refine va_MetW (cc := cL_roll) (maxL := 5) (ret := (some .int)) (hh := [(0, 10, 13, 13), (0, 10, 17, 15), (0, 10, 21, 59)]) (by decide) rfl ?_
  intro p e s m args below meth c s₁ B hml hv
  obtain ⟨rfl, rfl, hb0, hPr, hP, hD0⟩ := hv
  have hx := B.exec
  have hb := B.bytes
  have hr := B.returns
  have hown : s.vm.findClass RL = some m.cls := findClass_of_methodNamed B.named
  have hlocks := B.notSynchronized
  have hK := h.K hb0
  have htab : c.exceptionTable.toList = [⟨0, 10, 13, 13⟩, ⟨0, 10, 17, 15⟩, ⟨0, 10, 21, 59⟩] := xtab (k_458 (args := #[]) h hb0) B.named B.method (Stand.of_body B).code
  have hS : va_S (va_A [(lk, .inl (cA 1, 1, .inr (.inl lf)))] s.heap.size) s.heap s.heap [] := va_S.rf
  obtain ⟨A, hAe, hD, hA, hz, hRo, hwk, hnR⟩ := xM_start hb0 hPr hP hD0
  rw [hAe] at hS ⊢
  have hl := lv_entry ([.ref b, .int p1, .int p2, .ref lk]) (n := 5) (Nat.le_of_ble_eq_true rfl)
  rw [lg_entry_eq]
  generalize (lg_sl ([.ref b, .int p1, .int p2, .ref lk]) ++ List.replicate (5 - (lg_sl ([.ref b, .int p1, .int p2, .ref lk])).length) Slot.unset).toArray = ls at hl ⊢
  have hl : lv_has ls 5 [(0, .ref b), (1, .int p1), (2, .int p2), (3, .ref lk)] := hl
  refine lv_aload_n hx hb dL_roll_0 rfl (lv_at hl 3 rfl) ?_
  refine lv_iconst (v := 0) hx hb dL_roll_1 (by decide) ?_
  refine lv_aload_n hx hb dL_roll_2 rfl (lv_at hl 0 rfl) ?_
  refine lv_iload_n hx hb dL_roll_3 rfl (lv_at hl 1 rfl) ?_
  refine lv_iload_n hx hb dL_roll_4 rfl (lv_at hl 2 rfl) ?_
  refine xt_callV (As := [.int p1, .int p2]) (rest := [.int 0, .ref lk]) ⟨hx, hb, hml, hown, xTs⟩ (t_roll_A h b gr br wr ca ro pl z1 z2 z3 p1 f p2 hm ht hc) ⟨xB (n := 2) (k_463 h hb0) (k_1 h hb0) (k_460 h hb0) (by decide) rfl rfl rfl (by decide) (by decide), (k_461 h hb0), (k_462 h hb0)⟩ (xpV hb0 hS hz (va_P.sub (hRo _ _ hS) [0, 1, 2] rfl) (va_recv hK (hRo _ _ hS) (ci := 5) (q0 := 0) rfl rfl)) rfl rfl hl.1 rfl (lv_room (Nat.le_of_ble_eq_true rfl)) dL_roll_5 ⟨(Nat.le_of_ble_eq_true rfl), (Nat.le_of_ble_eq_true rfl)⟩ (fun q ce H h1 h2 h3 h4 h5 => ?_)
  refine xt_catch hown [⟨0, 10, 13, 13⟩] ⟨0, 10, 17, 15⟩ [⟨0, 10, 21, 59⟩] htab (fun z hz2 => by rw [List.mem_singleton] at hz2; rw [hz2]; exact ⟨rfl, by decide, _, k_129 h hb0, nc_IN h hb0⟩) rfl (by decide) (k_130 h hb0) (k_235 h hb0) h1 h2 h3 ?_
  have hP := xgrow hP h5
  have hS := xgrowS hS h4 h5
  show W _ _ _ _ _ _ _ _ _ _ _ _ _ _ _ (F0 m 17 ls [.ref q])
  refine lv_astore (lv' := [(4, .ref q), (0, .ref b), (1, .int p1), (2, .int p2), (3, .ref lk)]) hx hb dL_roll_17 hl (by decide) rfl (fun ls hl => ?_)
  refine lv_iconst (v := 2) hx hb dL_roll_19 (by decide) ?_
  exact W.iret hx hb hr (fun t ht _ => ⟨(some (.int 2)), _, rfl, ⟨rfl, rfl⟩, by rw [ht]; exact hP, hD, hS.F ht⟩) (fun q z => hS.2.2 q z) dL_roll_20
set_option maxHeartbeats 4000000 in
set_option maxRecDepth 100000 in
theorem l_t_roll_2 {l : Launch} {s0 : State} {a0 : Array Value} {dC : Nat → ClassId} {dI : Nat → Nat → Nat} {cA : Nat → ClassId} (h : xC l s0 a0 dC dI cA) (b gr br : Nat) (wr ca : Int32) (ro pl : Nat) (z1 z2 z3 p1 : Int32) (f : Nat → Option Nat) (p2 : Int32) (lk : Nat) (lf : Nat → Int64) (sz : Nat) (hm : z1 = 0 ∨ z1 = 1) (ht : ¬ z1 = 0) (h0 : ¬ p1 < 0) (h1 : p1 < z3) (hi : vp_in p1 19) (hf : f p1.toNatClampNeg = none) : Met l yL_roll [Cond.codeWith yL_roll cL_roll 5 (some .int) [(0, 10, 13, 13), (0, 10, 17, 15), (0, 10, 21, 59)]] ({ frames := 10, cells := 1, slots := 8, locals := 200 } : Room) (xPM s0 (dC, dI) [.ref b, .int p1, .int p2, .ref lk] [(b, .inr (5, [.ref ro, .ref gr, .ref br, .int wr, .int ca])), (br, .inr (1, [.ref pl, .int z1, .int z2, .int z3])), (pl, .inl (cA 8, 19, .inr (.inr (.inr (.inr f)))))] [(lk, .inl (cA 1, 1, .inr (.inl lf)))] sz) (xQM (dC, dI) (va_A [(lk, .inl (cA 1, 1, .inr (.inl lf)))] sz) (fun r w1 => r = some (.int 1) ∧ w1 = [(lk, .inl (cA 1, 1, .inr (.inl lf)))])) 1 8 (va_A [(lk, .inl (cA 1, 1, .inr (.inl lf)))] sz) := by
  refine va_MetW (cc := cL_roll) (maxL := 5) (ret := (some .int)) (hh := [(0, 10, 13, 13), (0, 10, 17, 15), (0, 10, 21, 59)]) (by decide) rfl ?_
  intro p e s m args below meth c s₁ B hml hv
  obtain ⟨rfl, rfl, hb0, hPr, hP, hD0⟩ := hv
  have hx := B.exec
  have hb := B.bytes
  have hr := B.returns
  have hown : s.vm.findClass RL = some m.cls := findClass_of_methodNamed B.named
  have hlocks := B.notSynchronized
  have hK := h.K hb0
  have htab : c.exceptionTable.toList = [⟨0, 10, 13, 13⟩, ⟨0, 10, 17, 15⟩, ⟨0, 10, 21, 59⟩] := xtab (k_458 (args := #[]) h hb0) B.named B.method (Stand.of_body B).code
  have hS : va_S (va_A [(lk, .inl (cA 1, 1, .inr (.inl lf)))] s.heap.size) s.heap s.heap [] := va_S.rf
  obtain ⟨A, hAe, hD, hA, hz, hRo, hwk, hnR⟩ := xM_start hb0 hPr hP hD0
  rw [hAe] at hS ⊢
  have hl := lv_entry ([.ref b, .int p1, .int p2, .ref lk]) (n := 5) (Nat.le_of_ble_eq_true rfl)
  rw [lg_entry_eq]
  generalize (lg_sl ([.ref b, .int p1, .int p2, .ref lk]) ++ List.replicate (5 - (lg_sl ([.ref b, .int p1, .int p2, .ref lk])).length) Slot.unset).toArray = ls at hl ⊢
  have hl : lv_has ls 5 [(0, .ref b), (1, .int p1), (2, .int p2), (3, .ref lk)] := hl
  refine lv_aload_n hx hb dL_roll_0 rfl (lv_at hl 3 rfl) ?_
  refine lv_iconst (v := 0) hx hb dL_roll_1 (by decide) ?_
  refine lv_aload_n hx hb dL_roll_2 rfl (lv_at hl 0 rfl) ?_
  refine lv_iload_n hx hb dL_roll_3 rfl (lv_at hl 1 rfl) ?_
  refine lv_iload_n hx hb dL_roll_4 rfl (lv_at hl 2 rfl) ?_
  refine xt_callV (As := [.int p1, .int p2]) (rest := [.int 0, .ref lk]) ⟨hx, hb, hml, hown, xTs⟩ (t_roll_2 h b gr br wr ca ro pl z1 z2 z3 p1 f p2 hm ht h0 h1 hi hf) ⟨xB (n := 2) (k_463 h hb0) (k_1 h hb0) (k_460 h hb0) (by decide) rfl rfl rfl (by decide) (by decide), (k_461 h hb0), (k_462 h hb0)⟩ (xpV hb0 hS hz (va_P.sub (hRo _ _ hS) [0, 1, 2] rfl) (va_recv hK (hRo _ _ hS) (ci := 5) (q0 := 0) rfl rfl)) rfl rfl hl.1 rfl (lv_room (Nat.le_of_ble_eq_true rfl)) dL_roll_5 ⟨(Nat.le_of_ble_eq_true rfl), (Nat.le_of_ble_eq_true rfl)⟩ (fun q ce H h1 h2 h3 h4 h5 => ?_)
  refine xt_catch hown [] ⟨0, 10, 13, 13⟩ [⟨0, 10, 17, 15⟩, ⟨0, 10, 21, 59⟩] htab xnone rfl (by decide) (k_129 h hb0) (k_143 h hb0) h1 h2 h3 ?_
  have hP := xgrow hP h5
  have hS := xgrowS hS h4 h5
  show W _ _ _ _ _ _ _ _ _ _ _ _ _ _ _ (F0 m 13 ls [.ref q])
  refine lv_astore (lv' := [(4, .ref q), (0, .ref b), (1, .int p1), (2, .int p2), (3, .ref lk)]) hx hb dL_roll_13 hl (by decide) rfl (fun ls hl => ?_)
  refine lv_iconst (v := 1) hx hb dL_roll_15 (by decide) ?_
  exact W.iret hx hb hr (fun t ht _ => ⟨(some (.int 1)), _, rfl, ⟨rfl, rfl⟩, by rw [ht]; exact hP, hD, hS.F ht⟩) (fun q z => hS.2.2 q z) dL_roll_16
set_option maxHeartbeats 4000000 in
set_option maxRecDepth 100000 in
theorem l_c_divide {l : Launch} {s0 : State} {a0 : Array Value} {dC : Nat → ClassId} {dI : Nat → Nat → Nat} {cA : Nat → ClassId} (h : xC l s0 a0 dC dI cA) (b : Nat) (p1 p2 : Int32) (p3 : Int32) (lk : Nat) (lf : Nat → Int64) (ro gr br : Nat) (wr ca : Int32) (sz : Nat) (hc : ¬ p2 = 0) : Met l yL_divide [Cond.codeWith yL_divide cL_divide 6 (some .int) [(0, 12, 15, 65)]] ({ frames := 2, cells := 0, slots := 0, locals := 70 } : Room) (xPM s0 (dC, dI) [.ref b, .int p1, .int p2, .int p3, .ref lk] [(b, .inr (5, [.ref ro, .ref gr, .ref br, .int wr, .int ca]))] [(lk, .inl (cA 1, 1, .inr (.inl lf)))] sz) (xQM (dC, dI) (va_A [(lk, .inl (cA 1, 1, .inr (.inl lf)))] sz) (fun r w1 => r = some (.int 0) ∧ w1 = [(lk, .inl (cA 1, 1, .inr (.inl (vp_updL lf 0 ((if p3 = 0 then p1 / p2 else p1 - p1 / p2 * p2).toInt64)))))])) 0 0 (va_A [(lk, .inl (cA 1, 1, .inr (.inl lf)))] sz) := by
  refine va_MetW (cc := cL_divide) (maxL := 6) (ret := (some .int)) (hh := [(0, 12, 15, 65)]) (by decide) rfl ?_
  intro p e s m args below meth c s₁ B hml hv
  obtain ⟨rfl, rfl, hb0, hPr, hP, hD0⟩ := hv
  have hx := B.exec
  have hb := B.bytes
  have hr := B.returns
  have hown : s.vm.findClass RL = some m.cls := findClass_of_methodNamed B.named
  have hlocks := B.notSynchronized
  have hK := h.K hb0
  have htab : c.exceptionTable.toList = [⟨0, 12, 15, 65⟩] := xtab (k_485 (args := #[]) h hb0) B.named B.method (Stand.of_body B).code
  have hS : va_S (va_A [(lk, .inl (cA 1, 1, .inr (.inl lf)))] s.heap.size) s.heap s.heap [] := va_S.rf
  obtain ⟨A, hAe, hD, hA, hz, hRo, hwk, hnR⟩ := xM_start hb0 hPr hP hD0
  rw [hAe] at hS ⊢
  have hl := lv_entry ([.ref b, .int p1, .int p2, .int p3, .ref lk]) (n := 6) (Nat.le_of_ble_eq_true rfl)
  rw [lg_entry_eq]
  generalize (lg_sl ([.ref b, .int p1, .int p2, .int p3, .ref lk]) ++ List.replicate (6 - (lg_sl ([.ref b, .int p1, .int p2, .int p3, .ref lk])).length) Slot.unset).toArray = ls at hl ⊢
  have hl : lv_has ls 6 [(0, .ref b), (1, .int p1), (2, .int p2), (3, .int p3), (4, .ref lk)] := hl
  refine lv_aload hx hb dL_divide_0 (lv_at hl 4 rfl) ?_
  refine lv_iconst (v := 0) hx hb dL_divide_2 (by decide) ?_
  refine lv_aload_n hx hb dL_divide_3 rfl (lv_at hl 0 rfl) ?_
  refine lv_iload_n hx hb dL_divide_4 rfl (lv_at hl 1 rfl) ?_
  refine lv_iload_n hx hb dL_divide_5 rfl (lv_at hl 2 rfl) ?_
  refine lv_iload_n hx hb dL_divide_6 rfl (lv_at hl 3 rfl) ?_
  refine xr_1 (va_runV (As := [.int p1, .int p2, .int p3]) (rest := [.int 0, .ref lk]) ⟨hx, hb, hml, hown, xTs⟩ (c_divide h b p1 p2 p3 hc) ⟨xB (n := 3) (k_490 h hb0) (k_1 h hb0) (k_487 h hb0) (by decide) rfl rfl rfl (by decide) (by decide), (k_488 h hb0), (k_489 h hb0)⟩ (xpV hb0 hS hz (va_P.sub (hRo _ _ hS) [] rfl) (va_recv hK (hRo _ _ hS) (ci := 5) (q0 := 0) rfl rfl)) rfl rfl hl.1 rfl (lv_room (Nat.le_of_ble_eq_true rfl)) dL_divide_7 ⟨(Nat.le_of_ble_eq_true rfl), (Nat.le_of_ble_eq_true rfl)⟩) ?_
  refine lv_i2l hx hb dL_divide_10 rfl ?_
  refine va_last hx hb hK hP hD hS 0 1 rfl rfl xin0 dL_divide_11 (fun H locs hP hD hS => ?_)
  have hP : va_P (dC, dI) vwCl [(lk, .inl (cA 1, 1, .inr (.inl (vp_updL lf (0 : Int32).toNatClampNeg ((if p3 = 0 then p1 / p2 else p1 - p1 / p2 * p2).toInt64)))))] H := hP
  have hD : va_D A [(lk, .inl (cA 1, 1, .inr (.inl (vp_updL lf (0 : Int32).toNatClampNeg ((if p3 = 0 then p1 / p2 else p1 - p1 / p2 * p2).toInt64)))))] := hD
  refine lv_goto (tgt := 19) hx hb dL_divide_12 (by decide) ?_
  refine lv_iconst (v := 0) hx hb dL_divide_19 (by decide) ?_
  exact W.iret hx hb hr (fun t ht _ => ⟨(some (.int 0)), _, rfl, ⟨rfl, rfl⟩, by rw [ht]; exact hP, hD, hS.F ht⟩) (fun q z => hS.2.2 q z) dL_divide_20
set_option maxHeartbeats 4000000 in
set_option maxRecDepth 100000 in
theorem l_t_divide_Z {l : Launch} {s0 : State} {a0 : Array Value} {dC : Nat → ClassId} {dI : Nat → Nat → Nat} {cA : Nat → ClassId} (h : xC l s0 a0 dC dI cA) (b : Nat) (p1 p2 : Int32) (p3 : Int32) (lk : Nat) (lf : Nat → Int64) (ro gr br : Nat) (wr ca : Int32) (sz : Nat) (hc : p2 = 0) : Met l yL_divide [Cond.codeWith yL_divide cL_divide 6 (some .int) [(0, 12, 15, 65)]] ({ frames := 9, cells := 1, slots := 8, locals := 170 } : Room) (xPM s0 (dC, dI) [.ref b, .int p1, .int p2, .int p3, .ref lk] [(b, .inr (5, [.ref ro, .ref gr, .ref br, .int wr, .int ca]))] [(lk, .inl (cA 1, 1, .inr (.inl lf)))] sz) (xQM (dC, dI) (va_A [(lk, .inl (cA 1, 1, .inr (.inl lf)))] sz) (fun r w1 => r = some (.int 1) ∧ w1 = [(lk, .inl (cA 1, 1, .inr (.inl lf)))])) 1 8 (va_A [(lk, .inl (cA 1, 1, .inr (.inl lf)))] sz) := by
  refine va_MetW (cc := cL_divide) (maxL := 6) (ret := (some .int)) (hh := [(0, 12, 15, 65)]) (by decide) rfl ?_
  intro p e s m args below meth c s₁ B hml hv
  obtain ⟨rfl, rfl, hb0, hPr, hP, hD0⟩ := hv
  have hx := B.exec
  have hb := B.bytes
  have hr := B.returns
  have hown : s.vm.findClass RL = some m.cls := findClass_of_methodNamed B.named
  have hlocks := B.notSynchronized
  have hK := h.K hb0
  have htab : c.exceptionTable.toList = [⟨0, 12, 15, 65⟩] := xtab (k_485 (args := #[]) h hb0) B.named B.method (Stand.of_body B).code
  have hS : va_S (va_A [(lk, .inl (cA 1, 1, .inr (.inl lf)))] s.heap.size) s.heap s.heap [] := va_S.rf
  obtain ⟨A, hAe, hD, hA, hz, hRo, hwk, hnR⟩ := xM_start hb0 hPr hP hD0
  rw [hAe] at hS ⊢
  have hl := lv_entry ([.ref b, .int p1, .int p2, .int p3, .ref lk]) (n := 6) (Nat.le_of_ble_eq_true rfl)
  rw [lg_entry_eq]
  generalize (lg_sl ([.ref b, .int p1, .int p2, .int p3, .ref lk]) ++ List.replicate (6 - (lg_sl ([.ref b, .int p1, .int p2, .int p3, .ref lk])).length) Slot.unset).toArray = ls at hl ⊢
  have hl : lv_has ls 6 [(0, .ref b), (1, .int p1), (2, .int p2), (3, .int p3), (4, .ref lk)] := hl
  refine lv_aload hx hb dL_divide_0 (lv_at hl 4 rfl) ?_
  refine lv_iconst (v := 0) hx hb dL_divide_2 (by decide) ?_
  refine lv_aload_n hx hb dL_divide_3 rfl (lv_at hl 0 rfl) ?_
  refine lv_iload_n hx hb dL_divide_4 rfl (lv_at hl 1 rfl) ?_
  refine lv_iload_n hx hb dL_divide_5 rfl (lv_at hl 2 rfl) ?_
  refine lv_iload_n hx hb dL_divide_6 rfl (lv_at hl 3 rfl) ?_
  refine xt_callV (As := [.int p1, .int p2, .int p3]) (rest := [.int 0, .ref lk]) ⟨hx, hb, hml, hown, xTs⟩ (t_divide_Z h b p1 p2 p3 hc) ⟨xB (n := 3) (k_490 h hb0) (k_1 h hb0) (k_487 h hb0) (by decide) rfl rfl rfl (by decide) (by decide), (k_488 h hb0), (k_489 h hb0)⟩ (xpV hb0 hS hz (va_P.sub (hRo _ _ hS) [] rfl) (va_recv hK (hRo _ _ hS) (ci := 5) (q0 := 0) rfl rfl)) rfl rfl hl.1 rfl (lv_room (Nat.le_of_ble_eq_true rfl)) dL_divide_7 ⟨(Nat.le_of_ble_eq_true rfl), (Nat.le_of_ble_eq_true rfl)⟩ (fun q ce H h1 h2 h3 h4 h5 => ?_)
  refine xt_catch hown [] ⟨0, 12, 15, 65⟩ [] htab xnone rfl (by decide) (k_486 h hb0) (k_496 h hb0) h1 h2 h3 ?_
  have hP := xgrow hP h5
  have hS := xgrowS hS h4 h5
  show W _ _ _ _ _ _ _ _ _ _ _ _ _ _ _ (F0 m 15 ls [.ref q])
  refine lv_astore (lv' := [(5, .ref q), (0, .ref b), (1, .int p1), (2, .int p2), (3, .int p3), (4, .ref lk)]) hx hb dL_divide_15 hl (by decide) rfl (fun ls hl => ?_)
  refine lv_iconst (v := 1) hx hb dL_divide_17 (by decide) ?_
  exact W.iret hx hb hr (fun t ht _ => ⟨(some (.int 1)), _, rfl, ⟨rfl, rfl⟩, by rw [ht]; exact hP, hD, hS.F ht⟩) (fun q z => hS.2.2 q z) dL_divide_18
set_option maxHeartbeats 4000000 in
set_option maxRecDepth 100000 in
theorem l_c_divideLong {l : Launch} {s0 : State} {a0 : Array Value} {dC : Nat → ClassId} {dI : Nat → Nat → Nat} {cA : Nat → ClassId} (h : xC l s0 a0 dC dI cA) (b : Nat) (p1 p2 : Int64) (p3 : Int32) (lk : Nat) (lf : Nat → Int64) (ro gr br : Nat) (wr ca : Int32) (sz : Nat) (hc : ¬ p2 = 0) : Met l yL_divideLong [Cond.codeWith yL_divideLong cL_divideLong 8 (some .int) [(0, 12, 15, 65)]] ({ frames := 2, cells := 0, slots := 0, locals := 70 } : Room) (xPM s0 (dC, dI) [.ref b, .long p1, .long p2, .int p3, .ref lk] [(b, .inr (5, [.ref ro, .ref gr, .ref br, .int wr, .int ca]))] [(lk, .inl (cA 1, 1, .inr (.inl lf)))] sz) (xQM (dC, dI) (va_A [(lk, .inl (cA 1, 1, .inr (.inl lf)))] sz) (fun r w1 => r = some (.int 0) ∧ w1 = [(lk, .inl (cA 1, 1, .inr (.inl (vp_updL lf 0 ((if p3 = 0 then p1 / p2 else p1 - p1 / p2 * p2))))))])) 0 0 (va_A [(lk, .inl (cA 1, 1, .inr (.inl lf)))] sz) := by
  refine va_MetW (cc := cL_divideLong) (maxL := 8) (ret := (some .int)) (hh := [(0, 12, 15, 65)]) (by decide) rfl ?_
  intro p e s m args below meth c s₁ B hml hv
  obtain ⟨rfl, rfl, hb0, hPr, hP, hD0⟩ := hv
  have hx := B.exec
  have hb := B.bytes
  have hr := B.returns
  have hown : s.vm.findClass RL = some m.cls := findClass_of_methodNamed B.named
  have hlocks := B.notSynchronized
  have hK := h.K hb0
  have htab : c.exceptionTable.toList = [⟨0, 12, 15, 65⟩] := xtab (k_512 (args := #[]) h hb0) B.named B.method (Stand.of_body B).code
  have hS : va_S (va_A [(lk, .inl (cA 1, 1, .inr (.inl lf)))] s.heap.size) s.heap s.heap [] := va_S.rf
  obtain ⟨A, hAe, hD, hA, hz, hRo, hwk, hnR⟩ := xM_start hb0 hPr hP hD0
  rw [hAe] at hS ⊢
  have hl := lv_entry ([.ref b, .long p1, .long p2, .int p3, .ref lk]) (n := 8) (Nat.le_of_ble_eq_true rfl)
  rw [lg_entry_eq]
  generalize (lg_sl ([.ref b, .long p1, .long p2, .int p3, .ref lk]) ++ List.replicate (8 - (lg_sl ([.ref b, .long p1, .long p2, .int p3, .ref lk])).length) Slot.unset).toArray = ls at hl ⊢
  have hl : lv_has ls 8 [(0, .ref b), (1, .long p1), (3, .long p2), (5, .int p3), (6, .ref lk)] := hl
  refine lv_aload hx hb dL_divideLong_0 (lv_at hl 4 rfl) ?_
  refine lv_iconst (v := 0) hx hb dL_divideLong_2 (by decide) ?_
  refine lv_aload_n hx hb dL_divideLong_3 rfl (lv_at hl 0 rfl) ?_
  refine lv_lload_n hx hb dL_divideLong_4 rfl (lv_at hl 1 rfl) ?_
  refine lv_lload_n hx hb dL_divideLong_5 rfl (lv_at hl 2 rfl) ?_
  refine lv_iload hx hb dL_divideLong_6 (lv_at hl 3 rfl) ?_
  refine xr_1 (va_runV (As := [.long p1, .long p2, .int p3]) (rest := [.int 0, .ref lk]) ⟨hx, hb, hml, hown, xTs⟩ (c_divideLong h b p1 p2 p3 hc) ⟨xB (n := 3) (k_516 h hb0) (k_1 h hb0) (k_513 h hb0) (by decide) rfl rfl rfl (by decide) (by decide), (k_514 h hb0), (k_515 h hb0)⟩ (xpV hb0 hS hz (va_P.sub (hRo _ _ hS) [] rfl) (va_recv hK (hRo _ _ hS) (ci := 5) (q0 := 0) rfl rfl)) rfl rfl hl.1 rfl (lv_room (Nat.le_of_ble_eq_true rfl)) dL_divideLong_8 ⟨(Nat.le_of_ble_eq_true rfl), (Nat.le_of_ble_eq_true rfl)⟩) ?_
  refine va_last hx hb hK hP hD hS 0 1 rfl rfl xin0 dL_divideLong_11 (fun H locs hP hD hS => ?_)
  have hP : va_P (dC, dI) vwCl [(lk, .inl (cA 1, 1, .inr (.inl (vp_updL lf (0 : Int32).toNatClampNeg (if p3 = 0 then p1 / p2 else p1 - p1 / p2 * p2)))))] H := hP
  have hD : va_D A [(lk, .inl (cA 1, 1, .inr (.inl (vp_updL lf (0 : Int32).toNatClampNeg (if p3 = 0 then p1 / p2 else p1 - p1 / p2 * p2)))))] := hD
  refine lv_goto (tgt := 19) hx hb dL_divideLong_12 (by decide) ?_
  refine lv_iconst (v := 0) hx hb dL_divideLong_19 (by decide) ?_
  exact W.iret hx hb hr (fun t ht _ => ⟨(some (.int 0)), _, rfl, ⟨rfl, rfl⟩, by rw [ht]; exact hP, hD, hS.F ht⟩) (fun q z => hS.2.2 q z) dL_divideLong_20
set_option maxHeartbeats 4000000 in
set_option maxRecDepth 100000 in
theorem l_t_divideLong_Z {l : Launch} {s0 : State} {a0 : Array Value} {dC : Nat → ClassId} {dI : Nat → Nat → Nat} {cA : Nat → ClassId} (h : xC l s0 a0 dC dI cA) (b : Nat) (p1 p2 : Int64) (p3 : Int32) (lk : Nat) (lf : Nat → Int64) (ro gr br : Nat) (wr ca : Int32) (sz : Nat) (hc : p2 = 0) : Met l yL_divideLong [Cond.codeWith yL_divideLong cL_divideLong 8 (some .int) [(0, 12, 15, 65)]] ({ frames := 9, cells := 1, slots := 8, locals := 170 } : Room) (xPM s0 (dC, dI) [.ref b, .long p1, .long p2, .int p3, .ref lk] [(b, .inr (5, [.ref ro, .ref gr, .ref br, .int wr, .int ca]))] [(lk, .inl (cA 1, 1, .inr (.inl lf)))] sz) (xQM (dC, dI) (va_A [(lk, .inl (cA 1, 1, .inr (.inl lf)))] sz) (fun r w1 => r = some (.int 1) ∧ w1 = [(lk, .inl (cA 1, 1, .inr (.inl lf)))])) 1 8 (va_A [(lk, .inl (cA 1, 1, .inr (.inl lf)))] sz) := by
  refine va_MetW (cc := cL_divideLong) (maxL := 8) (ret := (some .int)) (hh := [(0, 12, 15, 65)]) (by decide) rfl ?_
  intro p e s m args below meth c s₁ B hml hv
  obtain ⟨rfl, rfl, hb0, hPr, hP, hD0⟩ := hv
  have hx := B.exec
  have hb := B.bytes
  have hr := B.returns
  have hown : s.vm.findClass RL = some m.cls := findClass_of_methodNamed B.named
  have hlocks := B.notSynchronized
  have hK := h.K hb0
  have htab : c.exceptionTable.toList = [⟨0, 12, 15, 65⟩] := xtab (k_512 (args := #[]) h hb0) B.named B.method (Stand.of_body B).code
  have hS : va_S (va_A [(lk, .inl (cA 1, 1, .inr (.inl lf)))] s.heap.size) s.heap s.heap [] := va_S.rf
  obtain ⟨A, hAe, hD, hA, hz, hRo, hwk, hnR⟩ := xM_start hb0 hPr hP hD0
  rw [hAe] at hS ⊢
  have hl := lv_entry ([.ref b, .long p1, .long p2, .int p3, .ref lk]) (n := 8) (Nat.le_of_ble_eq_true rfl)
  rw [lg_entry_eq]
  generalize (lg_sl ([.ref b, .long p1, .long p2, .int p3, .ref lk]) ++ List.replicate (8 - (lg_sl ([.ref b, .long p1, .long p2, .int p3, .ref lk])).length) Slot.unset).toArray = ls at hl ⊢
  have hl : lv_has ls 8 [(0, .ref b), (1, .long p1), (3, .long p2), (5, .int p3), (6, .ref lk)] := hl
  refine lv_aload hx hb dL_divideLong_0 (lv_at hl 4 rfl) ?_
  refine lv_iconst (v := 0) hx hb dL_divideLong_2 (by decide) ?_
  refine lv_aload_n hx hb dL_divideLong_3 rfl (lv_at hl 0 rfl) ?_
  refine lv_lload_n hx hb dL_divideLong_4 rfl (lv_at hl 1 rfl) ?_
  refine lv_lload_n hx hb dL_divideLong_5 rfl (lv_at hl 2 rfl) ?_
  refine lv_iload hx hb dL_divideLong_6 (lv_at hl 3 rfl) ?_
  refine xt_callV (As := [.long p1, .long p2, .int p3]) (rest := [.int 0, .ref lk]) ⟨hx, hb, hml, hown, xTs⟩ (t_divideLong_Z h b p1 p2 p3 hc) ⟨xB (n := 3) (k_516 h hb0) (k_1 h hb0) (k_513 h hb0) (by decide) rfl rfl rfl (by decide) (by decide), (k_514 h hb0), (k_515 h hb0)⟩ (xpV hb0 hS hz (va_P.sub (hRo _ _ hS) [] rfl) (va_recv hK (hRo _ _ hS) (ci := 5) (q0 := 0) rfl rfl)) rfl rfl hl.1 rfl (lv_room (Nat.le_of_ble_eq_true rfl)) dL_divideLong_8 ⟨(Nat.le_of_ble_eq_true rfl), (Nat.le_of_ble_eq_true rfl)⟩ (fun q ce H h1 h2 h3 h4 h5 => ?_)
  refine xt_catch hown [] ⟨0, 12, 15, 65⟩ [] htab xnone rfl (by decide) (k_486 h hb0) (k_496 h hb0) h1 h2 h3 ?_
  have hP := xgrow hP h5
  have hS := xgrowS hS h4 h5
  show W _ _ _ _ _ _ _ _ _ _ _ _ _ _ _ (F0 m 15 ls [.ref q])
  refine lv_astore (lv' := [(7, .ref q), (0, .ref b), (1, .long p1), (3, .long p2), (5, .int p3), (6, .ref lk)]) hx hb dL_divideLong_15 hl (by decide) rfl (fun ls hl => ?_)
  refine lv_iconst (v := 1) hx hb dL_divideLong_17 (by decide) ?_
  exact W.iret hx hb hr (fun t ht _ => ⟨(some (.int 1)), _, rfl, ⟨rfl, rfl⟩, by rw [ht]; exact hP, hD, hS.F ht⟩) (fun q z => hS.2.2 q z) dL_divideLong_18
set_option maxHeartbeats 4000000 in
set_option maxRecDepth 100000 in
theorem l_t_raise_N {l : Launch} {s0 : State} {a0 : Array Value} {dC : Nat → ClassId} {dI : Nat → Nat → Nat} {cA : Nat → ClassId} (h : xC l s0 a0 dC dI cA) (b : Nat) (p1 : Int32) (lk : Nat) (lf : Nat → Int64) (ro gr br : Nat) (wr ca : Int32) (sz : Nat) (ht : p1 = 0) : Met l yL_raise [Cond.codeWith yL_raise cL_raise 4 (some .int) [(0, 9, 12, 13), (0, 9, 15, 65)]] ({ frames := 9, cells := 1, slots := 8, locals := 170 } : Room) (xPM s0 (dC, dI) [.ref b, .int p1, .ref lk] [(b, .inr (5, [.ref ro, .ref gr, .ref br, .int wr, .int ca]))] [(lk, .inl (cA 1, 1, .inr (.inl lf)))] sz) (xQM (dC, dI) (va_A [(lk, .inl (cA 1, 1, .inr (.inl lf)))] sz) (fun r w1 => r = some (.int 1) ∧ w1 = [(lk, .inl (cA 1, 1, .inr (.inl lf)))])) 1 8 (va_A [(lk, .inl (cA 1, 1, .inr (.inl lf)))] sz) := by
  refine va_MetW (cc := cL_raise) (maxL := 4) (ret := (some .int)) (hh := [(0, 9, 12, 13), (0, 9, 15, 65)]) (by decide) rfl ?_
  intro p e s m args below meth c s₁ B hml hv
  obtain ⟨rfl, rfl, hb0, hPr, hP, hD0⟩ := hv
  have hx := B.exec
  have hb := B.bytes
  have hr := B.returns
  have hown : s.vm.findClass RL = some m.cls := findClass_of_methodNamed B.named
  have hlocks := B.notSynchronized
  have hK := h.K hb0
  have htab : c.exceptionTable.toList = [⟨0, 9, 12, 13⟩, ⟨0, 9, 15, 65⟩] := xtab (k_519 (args := #[]) h hb0) B.named B.method (Stand.of_body B).code
  have hS : va_S (va_A [(lk, .inl (cA 1, 1, .inr (.inl lf)))] s.heap.size) s.heap s.heap [] := va_S.rf
  obtain ⟨A, hAe, hD, hA, hz, hRo, hwk, hnR⟩ := xM_start hb0 hPr hP hD0
  rw [hAe] at hS ⊢
  have hl := lv_entry ([.ref b, .int p1, .ref lk]) (n := 4) (Nat.le_of_ble_eq_true rfl)
  rw [lg_entry_eq]
  generalize (lg_sl ([.ref b, .int p1, .ref lk]) ++ List.replicate (4 - (lg_sl ([.ref b, .int p1, .ref lk])).length) Slot.unset).toArray = ls at hl ⊢
  have hl : lv_has ls 4 [(0, .ref b), (1, .int p1), (2, .ref lk)] := hl
  refine lv_aload_n hx hb dL_raise_0 rfl (lv_at hl 2 rfl) ?_
  refine lv_iconst (v := 0) hx hb dL_raise_1 (by decide) ?_
  refine lv_aload_n hx hb dL_raise_2 rfl (lv_at hl 0 rfl) ?_
  refine lv_iload_n hx hb dL_raise_3 rfl (lv_at hl 1 rfl) ?_
  refine xt_callV (As := [.int p1]) (rest := [.int 0, .ref lk]) ⟨hx, hb, hml, hown, xTs⟩ (t_raise_N h b p1 ht) ⟨xB (n := 1) (k_523 h hb0) (k_1 h hb0) (k_520 h hb0) (by decide) rfl rfl rfl (by decide) (by decide), (k_521 h hb0), (k_522 h hb0)⟩ (xpV hb0 hS hz (va_P.sub (hRo _ _ hS) [] rfl) (va_recv hK (hRo _ _ hS) (ci := 5) (q0 := 0) rfl rfl)) rfl rfl hl.1 rfl (lv_room (Nat.le_of_ble_eq_true rfl)) dL_raise_4 ⟨(Nat.le_of_ble_eq_true rfl), (Nat.le_of_ble_eq_true rfl)⟩ (fun q ce H h1 h2 h3 h4 h5 => ?_)
  refine xt_catch hown [] ⟨0, 9, 12, 13⟩ [⟨0, 9, 15, 65⟩] htab xnone rfl (by decide) (k_129 h hb0) (k_143 h hb0) h1 h2 h3 ?_
  have hP := xgrow hP h5
  have hS := xgrowS hS h4 h5
  show W _ _ _ _ _ _ _ _ _ _ _ _ _ _ _ (F0 m 12 ls [.ref q])
  refine lv_astore_n (lv' := [(3, .ref q), (0, .ref b), (1, .int p1), (2, .ref lk)]) hx hb dL_raise_12 rfl hl (by decide) rfl (fun ls hl => ?_)
  refine lv_iconst (v := 1) hx hb dL_raise_13 (by decide) ?_
  exact W.iret hx hb hr (fun t ht _ => ⟨(some (.int 1)), _, rfl, ⟨rfl, rfl⟩, by rw [ht]; exact hP, hD, hS.F ht⟩) (fun q z => hS.2.2 q z) dL_raise_14
set_option maxHeartbeats 4000000 in
set_option maxRecDepth 100000 in
theorem l_t_raise_Z {l : Launch} {s0 : State} {a0 : Array Value} {dC : Nat → ClassId} {dI : Nat → Nat → Nat} {cA : Nat → ClassId} (h : xC l s0 a0 dC dI cA) (b : Nat) (p1 : Int32) (lk : Nat) (lf : Nat → Int64) (ro gr br : Nat) (wr ca : Int32) (sz : Nat) (ht : ¬ p1 = 0) : Met l yL_raise [Cond.codeWith yL_raise cL_raise 4 (some .int) [(0, 9, 12, 13), (0, 9, 15, 65)]] ({ frames := 9, cells := 1, slots := 8, locals := 170 } : Room) (xPM s0 (dC, dI) [.ref b, .int p1, .ref lk] [(b, .inr (5, [.ref ro, .ref gr, .ref br, .int wr, .int ca]))] [(lk, .inl (cA 1, 1, .inr (.inl lf)))] sz) (xQM (dC, dI) (va_A [(lk, .inl (cA 1, 1, .inr (.inl lf)))] sz) (fun r w1 => r = some (.int 2) ∧ w1 = [(lk, .inl (cA 1, 1, .inr (.inl lf)))])) 1 8 (va_A [(lk, .inl (cA 1, 1, .inr (.inl lf)))] sz) := by
  refine va_MetW (cc := cL_raise) (maxL := 4) (ret := (some .int)) (hh := [(0, 9, 12, 13), (0, 9, 15, 65)]) (by decide) rfl ?_
  intro p e s m args below meth c s₁ B hml hv
  obtain ⟨rfl, rfl, hb0, hPr, hP, hD0⟩ := hv
  have hx := B.exec
  have hb := B.bytes
  have hr := B.returns
  have hown : s.vm.findClass RL = some m.cls := findClass_of_methodNamed B.named
  have hlocks := B.notSynchronized
  have hK := h.K hb0
  have htab : c.exceptionTable.toList = [⟨0, 9, 12, 13⟩, ⟨0, 9, 15, 65⟩] := xtab (k_519 (args := #[]) h hb0) B.named B.method (Stand.of_body B).code
  have hS : va_S (va_A [(lk, .inl (cA 1, 1, .inr (.inl lf)))] s.heap.size) s.heap s.heap [] := va_S.rf
  obtain ⟨A, hAe, hD, hA, hz, hRo, hwk, hnR⟩ := xM_start hb0 hPr hP hD0
  rw [hAe] at hS ⊢
  have hl := lv_entry ([.ref b, .int p1, .ref lk]) (n := 4) (Nat.le_of_ble_eq_true rfl)
  rw [lg_entry_eq]
  generalize (lg_sl ([.ref b, .int p1, .ref lk]) ++ List.replicate (4 - (lg_sl ([.ref b, .int p1, .ref lk])).length) Slot.unset).toArray = ls at hl ⊢
  have hl : lv_has ls 4 [(0, .ref b), (1, .int p1), (2, .ref lk)] := hl
  refine lv_aload_n hx hb dL_raise_0 rfl (lv_at hl 2 rfl) ?_
  refine lv_iconst (v := 0) hx hb dL_raise_1 (by decide) ?_
  refine lv_aload_n hx hb dL_raise_2 rfl (lv_at hl 0 rfl) ?_
  refine lv_iload_n hx hb dL_raise_3 rfl (lv_at hl 1 rfl) ?_
  refine xt_callV (As := [.int p1]) (rest := [.int 0, .ref lk]) ⟨hx, hb, hml, hown, xTs⟩ (t_raise_Z h b p1 ht) ⟨xB (n := 1) (k_523 h hb0) (k_1 h hb0) (k_520 h hb0) (by decide) rfl rfl rfl (by decide) (by decide), (k_521 h hb0), (k_522 h hb0)⟩ (xpV hb0 hS hz (va_P.sub (hRo _ _ hS) [] rfl) (va_recv hK (hRo _ _ hS) (ci := 5) (q0 := 0) rfl rfl)) rfl rfl hl.1 rfl (lv_room (Nat.le_of_ble_eq_true rfl)) dL_raise_4 ⟨(Nat.le_of_ble_eq_true rfl), (Nat.le_of_ble_eq_true rfl)⟩ (fun q ce H h1 h2 h3 h4 h5 => ?_)
  refine xt_catch hown [⟨0, 9, 12, 13⟩] ⟨0, 9, 15, 65⟩ [] htab (fun z hz2 => by rw [List.mem_singleton] at hz2; rw [hz2]; exact ⟨rfl, by decide, _, k_129 h hb0, nc_ZN h hb0⟩) rfl (by decide) (k_486 h hb0) (k_496 h hb0) h1 h2 h3 ?_
  have hP := xgrow hP h5
  have hS := xgrowS hS h4 h5
  show W _ _ _ _ _ _ _ _ _ _ _ _ _ _ _ (F0 m 15 ls [.ref q])
  refine lv_astore_n (lv' := [(3, .ref q), (0, .ref b), (1, .int p1), (2, .ref lk)]) hx hb dL_raise_15 rfl hl (by decide) rfl (fun ls hl => ?_)
  refine lv_iconst (v := 2) hx hb dL_raise_16 (by decide) ?_
  exact W.iret hx hb hr (fun t ht _ => ⟨(some (.int 2)), _, rfl, ⟨rfl, rfl⟩, by rw [ht]; exact hP, hD, hS.F ht⟩) (fun q z => hS.2.2 q z) dL_raise_17
