def R_law : String := "FaultBenchLaw"
def lw_P (b : Addr) (xs : List Int32) (args : Array Value) (s : State) : Prop := args = #[.ref b] ∧ s.IntsAt b xs ∧ xs.length ≤ 3072 ∧ (Jvm.Cond.and given_1 narrow_1).before args s = true
def lw_Q (_ : Array Value) (s : State) (o : Outcome) (t : State) : Prop := o = .returned (some (.int 1)) ∧ Framed s o t [] 806833 6675604
def lw_Z (below : List Frame) (a : Array Value) (s : State) : State → Prop := fun t => ∃ o, t.status = .running ∧ Ended t below o ∧ lw_Q a s o t
theorem lw_ret {p : Program} {l : Launch} {e : Env} {s : State} {m : MethodId} {below : List Frame} {meth : Method} {c : Code} {b : Nat} (hx : p.tables.exec = Jvm.exec) (hb : c.code = code) (hr : meth.sig.returnType = ret) (hlocks : meth.locks = false) {pc : Nat} {H : Heap} {ls : Array Slot} (hdg : decode code pc = .ok (.ireturn, 1)) : W p l e room_1 s m #[Value.ref b] below meth c H [] 806833 6675604 (lw_Z below #[Value.ref b] s) (F0 m pc ls [.int 1]) := by
  intro T hT X
  obtain ⟨fs, hret, hrun, hended, hW, hframe⟩ := X.leave (v := some (.int 1)) (hlocks := hlocks) (fun h => by rw [hr] at h; cases h)
  have hmeth' : T.vm.method? m = some meth := X.method'
  refine ⟨T.setFrames fs, ?_, .returned (some (.int 1)), hrun, hended, rfl, ⟨_, rfl⟩, hW, hframe⟩
  jvm_step X.here [X.here.top, hx, hb, hdg, hmeth', hr, ret, narrow_b1]
  (try refine ⟨rfl, ?_⟩); (try refine ⟨rfl, ?_⟩)
  first | (intro acts; rw [hret _ acts rfl rfl rfl]) | rw [hret _ _ rfl rfl rfl]
  exact Steps.refl _
def lw_At (p : Program) (s : State) (m : MethodId) (meth : Method) (c : Code) (b L : Nat) (xs : Nat → Int32) : Prop :=
  p.tables.exec = Jvm.exec ∧ c.code = code ∧ meth.sig.returnType = ret ∧ c.maxLocals = 8 ∧ s.vm.findClass R_law = some m.cls ∧ (∀ w ∈ lw_tbl, w.before #[Value.ref b] s = true) ∧ va_X b L xs s s.heap ∧ b < s.heap.size ∧ meth.locks = false ∧ (Jvm.Cond.and given_1 narrow_1).before #[Value.ref b] s = true
set_option maxRecDepth 100000
theorem yw_0 : ∀ w ∈ u_ws RX0 TX0 1, w ∈ lw_tbl := by decide +kernel
theorem yw_1 : ∀ w ∈ u_ws RX1 TX1 4, w ∈ lw_tbl := by decide +kernel
theorem yw_2 : ∀ w ∈ u_ws RX2 TX2 1, w ∈ lw_tbl := by decide +kernel
theorem yw_3 : ∀ w ∈ u_ws RX3 TX3 4, w ∈ lw_tbl := by decide +kernel
theorem yw_4 : ∀ w ∈ u_ws RX4 TX4 9, w ∈ lw_tbl := by decide +kernel
theorem yw_5 : ∀ w ∈ u_ws RX5 TX5 5, w ∈ lw_tbl := by decide +kernel
theorem yw_6 : ∀ w ∈ u_ws RX6 TX6 13, w ∈ lw_tbl := by decide +kernel
set_option maxHeartbeats 4000000 in
/-- the classes and array classes of this law, at its start -/
theorem xK0 {s : State} {a : Array Value} (hts : ∀ w ∈ lw_tbl, w.before a s = true) : ∃ (dC : Nat → ClassId) (dI : Nat → Nat → Nat) (cA : Nat → ClassId), va_K (dC, dI) vwCl (xTy cA) s := by
  obtain ⟨c0, i0, hKn0⟩ := u_known (C := RX0) (T := TX0) (N := 1) (n := 1) hts yw_0 (hts (.instantiable RX0 1) (by decide +kernel))
  obtain ⟨c1, i1, hKn1⟩ := u_known (C := RX1) (T := TX1) (N := 4) (n := 4) hts yw_1 (hts (.instantiable RX1 4) (by decide +kernel))
  obtain ⟨c2, i2, hKn2⟩ := u_known (C := RX2) (T := TX2) (N := 1) (n := 1) hts yw_2 (hts (.instantiable RX2 1) (by decide +kernel))
  obtain ⟨c3, i3, hKn3⟩ := u_known (C := RX3) (T := TX3) (N := 4) (n := 4) hts yw_3 (hts (.instantiable RX3 4) (by decide +kernel))
  obtain ⟨c4, i4, hKn4⟩ := u_known (C := RX4) (T := TX4) (N := 9) (n := 9) hts yw_4 (hts (.instantiable RX4 9) (by decide +kernel))
  obtain ⟨c5, i5, hKn5⟩ := u_known (C := RX5) (T := TX5) (N := 5) (n := 5) hts yw_5 (hts (.instantiable RX5 5) (by decide +kernel))
  obtain ⟨c6, i6, hKn6⟩ := u_known (C := RX6) (T := TX6) (N := 13) (n := 13) hts yw_6 (hts (.instantiable RX6 13) (by decide +kernel))
  obtain ⟨a0, k0, m0, f0, g0, h0⟩ := Cond.arrayClass_spec (type := .int) (hts (.arrayClass .int) (by decide +kernel))
  obtain ⟨a1, k1, m1, f1, g1, h1⟩ := Cond.arrayClass_spec (type := .long) (hts (.arrayClass .long) (by decide +kernel))
  obtain ⟨a2, k2, m2, f2, g2, h2⟩ := Cond.arrayClass_spec (type := .short) (hts (.arrayClass .short) (by decide +kernel))
  obtain ⟨a3, k3, m3, f3, g3, h3⟩ := Cond.arrayClass_spec (type := .byte) (hts (.arrayClass .byte) (by decide +kernel))
  obtain ⟨a4, k4, m4, f4, g4, h4⟩ := Cond.arrayClass_spec (type := .char) (hts (.arrayClass .char) (by decide +kernel))
  obtain ⟨a5, k5, m5, f5, g5, h5⟩ := Cond.arrayClass_spec (type := .boolean) (hts (.arrayClass .boolean) (by decide +kernel))
  obtain ⟨a6, k6, m6, f6, g6, h6⟩ := Cond.arrayClass_spec (type := .float) (hts (.arrayClass .float) (by decide +kernel))
  obtain ⟨a7, k7, m7, f7, g7, h7⟩ := Cond.arrayClass_spec (type := .double) (hts (.arrayClass .double) (by decide +kernel))
  obtain ⟨m8, a8, k8, p8, -, g8, h8, f8⟩ := Cond.arrayOver_spec (n := "FaultBench$Box") (hts (.arrayOver (.object "FaultBench$Box")) (by decide +kernel))
  obtain ⟨m9, a9, k9, p9, g9, h9, f9⟩ := xq_over (t := .int) (hts (.arrayOver (.array .int)) (by decide +kernel))
  refine ⟨fun k => match k with | 0 => c0 | 1 => c1 | 2 => c2 | 3 => c3 | 4 => c4 | 5 => c5 | _ => c6, fun k => match k with | 0 => i0 | 1 => i1 | 2 => i2 | 3 => i3 | 4 => i4 | 5 => i5 | _ => i6, fun k => match k with | 0 => a0 | 1 => a1 | 2 => a2 | 3 => a3 | 4 => a4 | 5 => a5 | 6 => a6 | 7 => a7 | 8 => a8 | _ => a9, fun k q hq => ?_, fun k q hq => ?_⟩
  · match k, hq with
    | 0, hq => cases hq; exact hKn0
    | 1, hq => cases hq; exact hKn1
    | 2, hq => cases hq; exact hKn2
    | 3, hq => cases hq; exact hKn3
    | 4, hq => cases hq; exact hKn4
    | 5, hq => cases hq; exact hKn5
    | 6, hq => cases hq; exact hKn6
    | k + 7, hq => simp [vwCl] at hq
  · match k, hq with
    | 0, hq => cases hq; exact ⟨fun n z => ⟨fun y hy => (by cases hy), k0, g0, m0, h0⟩, f0⟩
    | 1, hq => cases hq; exact ⟨fun n z => ⟨fun y hy => (by cases hy), k1, g1, m1, h1⟩, f1⟩
    | 2, hq => cases hq; exact ⟨fun n z => ⟨fun y hy => (by cases hy), k2, g2, m2, h2⟩, f2⟩
    | 3, hq => cases hq; exact ⟨fun n z => ⟨fun y hy => (by cases hy), k3, g3, m3, h3⟩, f3⟩
    | 4, hq => cases hq; exact ⟨fun n z => ⟨fun y hy => (by cases hy), k4, g4, m4, h4⟩, f4⟩
    | 5, hq => cases hq; exact ⟨fun n z => ⟨fun y hy => (by cases hy), k5, g5, m5, h5⟩, f5⟩
    | 6, hq => cases hq; exact ⟨fun n z => ⟨fun y hy => (by cases hy), k6, g6, m6, h6⟩, f6⟩
    | 7, hq => cases hq; exact ⟨fun n z => ⟨fun y hy => (by cases hy), k7, g7, m7, h7⟩, f7⟩
    | 8, hq => cases hq; exact ⟨fun n z => ⟨fun y hy => (by cases hy), k8, g8, m8, h8⟩, k8, m8, g8, h8, p8, f8⟩
    | 9, hq => cases hq; exact ⟨fun n z => ⟨fun y hy => (by cases hy), k9, g9, m9, h9⟩, f9⟩
    | k + 10, hq => simp [xTy] at hq
set_option maxHeartbeats 4000000 in
/-- one round -/
theorem lo_round {p : Program} {l : Launch} {e : Env} {s : State} {m : MethodId} {below : List Frame} {meth : Method} {c : Code} {sb L : Nat} {xs : Nat → Int32} {dC : Nat → ClassId} {dI : Nat → Nat → Nat} {cA : Nat → ClassId} {A : Nat → Prop} {Q : State → Prop} (hC : lC p l s m c sb L xs dC dI cA A) {t : Nat} (ht6 : 6 * t + 6 ≤ L) {ls : Array Slot} {H : Heap} {locs : List Loc} (hI : lI A s dC dI cA sb t ls H locs) (kn : ∀ (ls : Array Slot) (H : Heap) (locs : List Loc), lI A s dC dI cA sb (t + 1) ls H locs → W p l e room_1 s m #[Value.ref sb] below meth c H locs (40 + 3 * (t + 1)) (900 + 20 * (t + 1)) Q (F0 m 23 ls [])) : W p l e room_1 s m #[Value.ref sb] below meth c H locs (40 + 3 * t) (900 + 20 * t) Q (F0 m 23 ls []) := by
  have hI0 := hI
  have kk : ∀ (ls : Array Slot) (H : Heap) (locs : List Loc), lI A s dC dI cA sb t ls H locs → W p l e room_1 s m #[Value.ref sb] below meth c H locs (40 + 3 * t + 3) (900 + 20 * t + 20) Q (F0 m 1386 ls []) := by
    intro ls H locs hI
    obtain ⟨hx, hb, hml, hown, h, hb0, hX, hbl, hA, hz, hL⟩ := hC
    obtain ⟨b, ro, b0, b1, b2, b3, b4, b5, b6, b7, b8, gr, gc, br, pl, mo, mr, ml, ms, mv, lk, ga, n, g, f, so, va, wr, ca, gm, gh, gw, bm, bd, bc, th, pf, LP, bx, lf, hl, hrest⟩ := hI
    refine lv_iinc (lv' := [(4, .int (nI (6 * (t + 1)))), (3, .ref lk), (2, .ref mo), (1, .ref b), (0, .ref sb)]) hx hb dL_law_1386 hl (k := 0) rfl (by rw [show 6 * (t + 1) = 6 * t + 6 by omega]; exact nI_add _ 6) (by decide) rfl (fun ls hl => ?_)
    refine lv_goto (tgt := 23) hx hb dL_law_1389 (by decide) ?_
    exact kn ls H locs ⟨b, ro, b0, b1, b2, b3, b4, b5, b6, b7, b8, gr, gc, br, pl, mo, mr, ml, ms, mv, lk, ga, n, g, f, so, va, wr, ca, gm, gh, gw, bm, bd, bc, th, pf, LP, bx, lf, hl, hrest⟩
  obtain ⟨hx, hb, hml, hown, h, hb0, hX, hbl, hA, hz, hL⟩ := id hC
  have hbA : ¬ A sb := fun z => absurd hbl (Nat.not_lt.mpr (hz _ z))
  obtain ⟨b, ro, b0, b1, b2, b3, b4, b5, b6, b7, b8, gr, gc, br, pl, mo, mr, ml, ms, mv, lk, ga, n, g, f, so, va, wr, ca, gm, gh, gw, bm, bd, bc, th, pf, LP, bx, lf, hl, hP, hD, hS, hpure⟩ := hI
  refine lv_iload hx hb dL_law_23 (lv_at hl 0 rfl) ?_
  refine lv_aload_n hx hb dL_law_25 rfl (lv_at hl 4 rfl) ?_
  refine va_slen hx hb hX hbl hbA hS dL_law_26 ?_
  refine lv_bipush (v := 6) hx hb dL_law_27 (by decide) ?_
  refine lv_isub hx hb dL_law_29 ?_
  refine lv_icmp_gt (tgt := 1392) hx hb dL_law_30 (by decide) (fun c1 => ?_) (fun c1 => ?_)
  · have h1 : (nI L - nI 6).toInt < (nI (6 * t)).toInt := Int32.lt_iff_toInt_lt.mp c1
    rw [pk_sub_toInt (by omega) (by decide), nI_toInt (by omega)] at h1
    omega
  refine lv_aload_n hx hb dL_law_33 rfl (lv_at hl 4 rfl) ?_
  refine lv_iload hx hb dL_law_34 (lv_at hl 0 rfl) ?_
  refine va_sld hx hb hX hbl hbA hS (vp_in_nI (show 6 * t < L by omega) (by omega)) dL_law_36 ?_
  rw [nI_clamp (show 6 * t < 2 ^ 31 by omega)]
  refine lv_bipush (v := 15) hx hb dL_law_37 (by decide) ?_
  refine lv_iand hx hb dL_law_39 ?_
  obtain ⟨j, hj, hje⟩ := pk_andE (xs (6 * t)) (m := 15) 4 (by decide)
  rw [hje]
  have hj : j = 0 ∨ j = 1 ∨ j = 2 ∨ j = 3 ∨ j = 4 ∨ j = 5 ∨ j = 6 ∨ j = 7 ∨ j = 8 ∨ j = 9 ∨ j = 10 ∨ j = 11 ∨ j = 12 ∨ j = 13 ∨ j = 14 ∨ j = 15 := by have : j < 16 := hj; omega
  rcases hj with rfl | rfl | rfl | rfl | rfl | rfl | rfl | rfl | rfl | rfl | rfl | rfl | rfl | rfl | rfl | rfl
  · refine lv_tableIn (off := 76) (tgt := 116) hx hb dL_law_40 (by decide) (by decide) (by decide) (by decide) ?_
    exact lo_read hC ht6 hI0 kk
  · refine lv_tableIn (off := 171) (tgt := 211) hx hb dL_law_40 (by decide) (by decide) (by decide) (by decide) ?_
    exact lo_write hC ht6 hI0 kk
  · refine lv_tableIn (off := 279) (tgt := 319) hx hb dL_law_40 (by decide) (by decide) (by decide) (by decide) ?_
    exact lo_length hC ht6 hI0 kk
  · refine lv_tableIn (off := 363) (tgt := 403) hx hb dL_law_40 (by decide) (by decide) (by decide) (by decide) ?_
    exact lo_make hC ht6 hI0 kk
  · refine lv_tableIn (off := 431) (tgt := 471) hx hb dL_law_40 (by decide) (by decide) (by decide) (by decide) ?_
    exact lo_grid hC ht6 hI0 kk
  · refine lv_tableIn (off := 499) (tgt := 539) hx hb dL_law_40 (by decide) (by decide) (by decide) (by decide) ?_
    exact lo_cell hC ht6 hI0 kk
  · refine lv_tableIn (off := 567) (tgt := 607) hx hb dL_law_40 (by decide) (by decide) (by decide) (by decide) ?_
    exact lo_boxes hC ht6 hI0 kk
  · refine lv_tableIn (off := 651) (tgt := 691) hx hb dL_law_40 (by decide) (by decide) (by decide) (by decide) ?_
    exact lo_put hC ht6 hI0 kk
  · refine lv_tableIn (off := 759) (tgt := 799) hx hb dL_law_40 (by decide) (by decide) (by decide) (by decide) ?_
    exact lo_value hC ht6 hI0 kk
  · refine lv_tableIn (off := 815) (tgt := 855) hx hb dL_law_40 (by decide) (by decide) (by decide) (by decide) ?_
    exact lo_change hC ht6 hI0 kk
  · refine lv_tableIn (off := 883) (tgt := 923) hx hb dL_law_40 (by decide) (by decide) (by decide) (by decide) ?_
    exact lo_weigh hC ht6 hI0 kk
  · refine lv_tableIn (off := 951) (tgt := 991) hx hb dL_law_40 (by decide) (by decide) (by decide) (by decide) ?_
    exact lo_roll hC ht6 hI0 kk
  · refine lv_tableIn (off := 1019) (tgt := 1059) hx hb dL_law_40 (by decide) (by decide) (by decide) (by decide) ?_
    exact lo_divide hC ht6 hI0 kk
  · refine lv_tableIn (off := 1115) (tgt := 1155) hx hb dL_law_40 (by decide) (by decide) (by decide) (by decide) ?_
    exact lo_divideLong hC ht6 hI0 kk
  · refine lv_tableIn (off := 1274) (tgt := 1314) hx hb dL_law_40 (by decide) (by decide) (by decide) (by decide) ?_
    exact lo_raise hC ht6 hI0 kk
  · refine lv_tableOut (tgt := 1386) hx hb dL_law_40 (by decide) (by decide) ?_
    refine W.widen (k := 40 + 3 * t + 3) (n := 900 + 20 * t + 20) (by omega) (by omega) ?_
    exact kk ls H locs hI0
set_option maxHeartbeats 4000000 in
set_option maxRecDepth 100000 in
theorem whole_start {p : Program} {e : Env} {s : State} {m : MethodId} {below : List Frame} {meth : Method} {c : Code} (l : Launch) (htr : l.stackTraces = false) {sb L : Nat} {xs : Nat → Int32} (hL : L ≤ 3072) (C0 : lw_At p s m meth c sb L xs) : W p l e room_1 s m #[Value.ref sb] below meth c s.heap [] 0 0 (lw_Z below #[Value.ref sb] s) (entryFrame m ([Value.ref sb] : List Value).toArray 8) := by
  obtain ⟨hx, hb, hr, hml, hown, hts, hX, hbl, hlocks, hgv⟩ := C0
  obtain ⟨dC, dI, cA, hK⟩ := xK0 hts
  have h : xC l s #[.ref sb] dC dI cA := ⟨htr, hts, hgv, hK⟩
  have hb0 : xb s s := ⟨State.WarmedH.refl s, Nat.le_refl _, fun _ _ => rfl⟩
  obtain ⟨A, hAe⟩ : ∃ A : Nat → Prop, A = fun q => s.heap.size ≤ q := ⟨_, rfl⟩
  have hA : ∀ q, s.heap.size ≤ q → A q := fun q z => by rw [hAe]; exact z
  have hz : ∀ q, A q → s.heap.size ≤ q := fun q z => by rw [hAe] at z; exact z
  have hwk : ∀ w1 : va_W, va_D A w1 → va_D (fun q => s.heap.size ≤ q) w1 := fun w1 g => g.weaken (fun _ _ _ z => hz _ z)
  have hC : lC p l s m c sb L xs dC dI cA A := ⟨hx, hb, hml, hown, h, hb0, hX, hbl, hA, hz, hL⟩
  have hS : va_S A s.heap s.heap [] := va_S.rf
  have hP : va_P (dC, dI) vwCl [] s.heap := fun k q z => nomatch z
  have hD : va_D A [] := xD_nil
  have hl := lv_entry ([.ref sb]) (n := 8) (Nat.le_of_ble_eq_true rfl)
  rw [lg_entry_eq]
  generalize (lg_sl ([.ref sb]) ++ List.replicate (8 - (lg_sl ([.ref sb])).length) Slot.unset).toArray = ls at hl ⊢
  have hl : lv_has ls 8 [(0, .ref sb)] := hl
  refine va_new (C := RX5) (T := TX5) (N := 5) (ci := 5) (fs := [.null, .null, .null, .int 0, .int 0]) hx hb (ly_5 h hb0) (fun _ z => z) tyX5 tyX5_ok hown (k_18 h hb0) (k_19 h hb0) (k_1 h hb0) hK hP hD hS hA rfl dfX5 (Nat.le_of_ble_eq_true rfl) (Nat.le_of_ble_eq_true rfl) dL_law_0 (fun b H hP hD hS => ?_)
  have hP : va_P (dC, dI) vwCl [(b, .inr (5, [.null, .null, .null, .int 0, .int 0]))] H := hP
  have hD : va_D A [(b, .inr (5, [.null, .null, .null, .int 0, .int 0]))] := hD
  refine lv_dup hx hb dL_law_3 rfl ?_
  refine xm_of (wc := [(b, .inr (5, [.null, .null, .null, .int 0, .int 0]))]) (wo := []) (va_runI (As := []) (rest := [.ref b]) ⟨hx, hb, hml, hown, xTs⟩ (c_fbInit h b _) ⟨xB (n := 0) (k_22 h hb0) (k_1 h hb0) (k_20 h hb0) (by decide) rfl rfl rfl (by decide) (by decide), rfl, (k_21 h hb0)⟩ (xpMS (As := [.ref b]) (wr := []) (wc := [(b, .inr (5, [.null, .null, .null, .int 0, .int 0]))]) hb0 hS hz (va_P.sub hP [] rfl) (va_P.sub hP [0] rfl) (va_D.sub (hwk _ hD) [0] rfl rfl)) rfl rfl hl.1 rfl (lv_room (Nat.le_of_ble_eq_true rfl)) dL_law_4 ⟨(Nat.le_of_ble_eq_true rfl), (Nat.le_of_ble_eq_true rfl)⟩) hP hD hS hA [0] [] rfl rfl rfl (by decide) (fun r w1 H locs hΦ hP hD hS => ?_)
  obtain ⟨ro, b0, b1, b2, b3, b4, b5, b6, b7, b8, gr, gc, br, pl, ga, rfl, rfl⟩ := hΦ
  have hP : va_P (dC, dI) vwCl ([(b, .inr (5, [.ref ro, .ref gr, .ref br, .int 0, .int 0])), (ro, .inr (4, [.ref b0, .ref b1, .ref b2, .ref b3, .ref b4, .ref b5, .ref b6, .ref b7, .ref b8])), (b0, .inl (cA 0, 8, .inl (lz 8))), (b1, .inl (cA 0, 39, .inl (r0 (fun _ _ => 0)))), (b2, .inl (cA 1, 39, .inr (.inl (r1 (fun _ _ => 0))))), (b3, .inl (cA 2, 39, .inl (r2 (fun _ _ => 0)))), (b4, .inl (cA 3, 39, .inl (r3 (fun _ _ => 0)))), (b5, .inl (cA 4, 39, .inl (r4 (fun _ _ => 0)))), (b6, .inl (cA 5, 39, .inl (r5 (fun _ _ => 0)))), (b7, .inl (cA 6, 39, .inr (.inr (.inl (r6 (fun _ _ => 0)))))), (b8, .inl (cA 7, 39, .inr (.inr (.inr (.inl (r7 (fun _ _ => 0))))))), (gr, .inr (3, [.ref gc, .int 0, .int 0, .int 0])), (gc, .inl (cA 9, 8, .inr (.inr (.inr (.inr (fun i => some (ga i))))))), (br, .inr (1, [.ref pl, .int 0, .int 0, .int 0])), (pl, .inl (cA 8, 19, .inr (.inr (.inr (.inr (fun _ => none))))))] ++ rws (cA 0) ga (gmx 8 0)) H := hP
  have hD : va_D A ([(b, .inr (5, [.ref ro, .ref gr, .ref br, .int 0, .int 0])), (ro, .inr (4, [.ref b0, .ref b1, .ref b2, .ref b3, .ref b4, .ref b5, .ref b6, .ref b7, .ref b8])), (b0, .inl (cA 0, 8, .inl (lz 8))), (b1, .inl (cA 0, 39, .inl (r0 (fun _ _ => 0)))), (b2, .inl (cA 1, 39, .inr (.inl (r1 (fun _ _ => 0))))), (b3, .inl (cA 2, 39, .inl (r2 (fun _ _ => 0)))), (b4, .inl (cA 3, 39, .inl (r3 (fun _ _ => 0)))), (b5, .inl (cA 4, 39, .inl (r4 (fun _ _ => 0)))), (b6, .inl (cA 5, 39, .inl (r5 (fun _ _ => 0)))), (b7, .inl (cA 6, 39, .inr (.inr (.inl (r6 (fun _ _ => 0)))))), (b8, .inl (cA 7, 39, .inr (.inr (.inr (.inl (r7 (fun _ _ => 0))))))), (gr, .inr (3, [.ref gc, .int 0, .int 0, .int 0])), (gc, .inl (cA 9, 8, .inr (.inr (.inr (.inr (fun i => some (ga i))))))), (br, .inr (1, [.ref pl, .int 0, .int 0, .int 0])), (pl, .inl (cA 8, 19, .inr (.inr (.inr (.inr (fun _ => none))))))] ++ rws (cA 0) ga (gmx 8 0)) := hD
  refine lv_astore_n (lv' := [(1, .ref b), (0, .ref sb)]) hx hb dL_law_7 rfl hl (by decide) rfl (fun ls hl => ?_)
  refine va_new (C := RX6) (T := TX6) (N := 13) (ci := 6) (fs := [.int 0, .null, .null, .int 0, .int 0, .int 0, .int 0, .int 0, .int 0, .int 0, .int 0, .null, .null]) hx hb (ly_6 h hb0) (fun _ z => z) tyX6 tyX6_ok hown (k_525 h hb0) (k_526 h hb0) (k_5 h hb0) hK hP hD hS hA rfl dfX6 (Nat.le_of_ble_eq_true rfl) (Nat.le_of_ble_eq_true rfl) dL_law_8 (fun mo H hP hD hS => ?_)
  have hP := va_P.swap hP
  have hD := va_D.swap hD
  have hP : va_P (dC, dI) vwCl ([(b, .inr (5, [.ref ro, .ref gr, .ref br, .int 0, .int 0])), (ro, .inr (4, [.ref b0, .ref b1, .ref b2, .ref b3, .ref b4, .ref b5, .ref b6, .ref b7, .ref b8])), (b0, .inl (cA 0, 8, .inl (lz 8))), (b1, .inl (cA 0, 39, .inl (r0 (fun _ _ => 0)))), (b2, .inl (cA 1, 39, .inr (.inl (r1 (fun _ _ => 0))))), (b3, .inl (cA 2, 39, .inl (r2 (fun _ _ => 0)))), (b4, .inl (cA 3, 39, .inl (r3 (fun _ _ => 0)))), (b5, .inl (cA 4, 39, .inl (r4 (fun _ _ => 0)))), (b6, .inl (cA 5, 39, .inl (r5 (fun _ _ => 0)))), (b7, .inl (cA 6, 39, .inr (.inr (.inl (r6 (fun _ _ => 0)))))), (b8, .inl (cA 7, 39, .inr (.inr (.inr (.inl (r7 (fun _ _ => 0))))))), (gr, .inr (3, [.ref gc, .int 0, .int 0, .int 0])), (gc, .inl (cA 9, 8, .inr (.inr (.inr (.inr (fun i => some (ga i))))))), (br, .inr (1, [.ref pl, .int 0, .int 0, .int 0])), (pl, .inl (cA 8, 19, .inr (.inr (.inr (.inr (fun _ => none)))))), (mo, .inr (6, [.int 0, .null, .null, .int 0, .int 0, .int 0, .int 0, .int 0, .int 0, .int 0, .int 0, .null, .null]))] ++ rws (cA 0) ga (gmx 8 0)) H := hP
  have hD : va_D A ([(b, .inr (5, [.ref ro, .ref gr, .ref br, .int 0, .int 0])), (ro, .inr (4, [.ref b0, .ref b1, .ref b2, .ref b3, .ref b4, .ref b5, .ref b6, .ref b7, .ref b8])), (b0, .inl (cA 0, 8, .inl (lz 8))), (b1, .inl (cA 0, 39, .inl (r0 (fun _ _ => 0)))), (b2, .inl (cA 1, 39, .inr (.inl (r1 (fun _ _ => 0))))), (b3, .inl (cA 2, 39, .inl (r2 (fun _ _ => 0)))), (b4, .inl (cA 3, 39, .inl (r3 (fun _ _ => 0)))), (b5, .inl (cA 4, 39, .inl (r4 (fun _ _ => 0)))), (b6, .inl (cA 5, 39, .inl (r5 (fun _ _ => 0)))), (b7, .inl (cA 6, 39, .inr (.inr (.inl (r6 (fun _ _ => 0)))))), (b8, .inl (cA 7, 39, .inr (.inr (.inr (.inl (r7 (fun _ _ => 0))))))), (gr, .inr (3, [.ref gc, .int 0, .int 0, .int 0])), (gc, .inl (cA 9, 8, .inr (.inr (.inr (.inr (fun i => some (ga i))))))), (br, .inr (1, [.ref pl, .int 0, .int 0, .int 0])), (pl, .inl (cA 8, 19, .inr (.inr (.inr (.inr (fun _ => none)))))), (mo, .inr (6, [.int 0, .null, .null, .int 0, .int 0, .int 0, .int 0, .int 0, .int 0, .int 0, .int 0, .null, .null]))] ++ rws (cA 0) ga (gmx 8 0)) := hD
  refine lv_dup hx hb dL_law_11 rfl ?_
  refine xm_ofQ (X9 := [(b, .inr (5, [.ref ro, .ref gr, .ref br, .int 0, .int 0])), (ro, .inr (4, [.ref b0, .ref b1, .ref b2, .ref b3, .ref b4, .ref b5, .ref b6, .ref b7, .ref b8])), (b0, .inl (cA 0, 8, .inl (lz 8))), (b1, .inl (cA 0, 39, .inl (r0 (fun _ _ => 0)))), (b2, .inl (cA 1, 39, .inr (.inl (r1 (fun _ _ => 0))))), (b3, .inl (cA 2, 39, .inl (r2 (fun _ _ => 0)))), (b4, .inl (cA 3, 39, .inl (r3 (fun _ _ => 0)))), (b5, .inl (cA 4, 39, .inl (r4 (fun _ _ => 0)))), (b6, .inl (cA 5, 39, .inl (r5 (fun _ _ => 0)))), (b7, .inl (cA 6, 39, .inr (.inr (.inl (r6 (fun _ _ => 0)))))), (b8, .inl (cA 7, 39, .inr (.inr (.inr (.inl (r7 (fun _ _ => 0))))))), (gr, .inr (3, [.ref gc, .int 0, .int 0, .int 0])), (gc, .inl (cA 9, 8, .inr (.inr (.inr (.inr (fun i => some (ga i))))))), (br, .inr (1, [.ref pl, .int 0, .int 0, .int 0])), (pl, .inl (cA 8, 19, .inr (.inr (.inr (.inr (fun _ => none)))))), (mo, .inr (6, [.int 0, .null, .null, .int 0, .int 0, .int 0, .int 0, .int 0, .int 0, .int 0, .int 0, .null, .null]))]) (pl := rws (cA 0) ga (gmx 8 0)) (wc := [(mo, .inr (6, [.int 0, .null, .null, .int 0, .int 0, .int 0, .int 0, .int 0, .int 0, .int 0, .int 0, .null, .null]))]) (wo := [(b, .inr (5, [.ref ro, .ref gr, .ref br, .int 0, .int 0])), (ro, .inr (4, [.ref b0, .ref b1, .ref b2, .ref b3, .ref b4, .ref b5, .ref b6, .ref b7, .ref b8])), (b0, .inl (cA 0, 8, .inl (lz 8))), (b1, .inl (cA 0, 39, .inl (r0 (fun _ _ => 0)))), (b2, .inl (cA 1, 39, .inr (.inl (r1 (fun _ _ => 0))))), (b3, .inl (cA 2, 39, .inl (r2 (fun _ _ => 0)))), (b4, .inl (cA 3, 39, .inl (r3 (fun _ _ => 0)))), (b5, .inl (cA 4, 39, .inl (r4 (fun _ _ => 0)))), (b6, .inl (cA 5, 39, .inl (r5 (fun _ _ => 0)))), (b7, .inl (cA 6, 39, .inr (.inr (.inl (r6 (fun _ _ => 0)))))), (b8, .inl (cA 7, 39, .inr (.inr (.inr (.inl (r7 (fun _ _ => 0))))))), (gr, .inr (3, [.ref gc, .int 0, .int 0, .int 0])), (gc, .inl (cA 9, 8, .inr (.inr (.inr (.inr (fun i => some (ga i))))))), (br, .inr (1, [.ref pl, .int 0, .int 0, .int 0])), (pl, .inl (cA 8, 19, .inr (.inr (.inr (.inr (fun _ => none))))))]) (va_runI (As := []) (rest := [.ref mo]) ⟨hx, hb, hml, hown, xTs⟩ (m_init h mo _) ⟨xB (n := 0) (k_529 h hb0) (k_5 h hb0) (k_527 h hb0) (by decide) rfl rfl rfl (by decide) (by decide), rfl, (k_528 h hb0)⟩ (xpMS (As := [.ref mo]) (wr := []) (wc := [(mo, .inr (6, [.int 0, .null, .null, .int 0, .int 0, .int 0, .int 0, .int 0, .int 0, .int 0, .int 0, .null, .null]))]) hb0 hS hz (va_P.sub hP [] rfl) (va_P.sub hP [15] rfl) (va_D.sub (hwk _ hD) [15] rfl rfl)) rfl rfl hl.1 rfl (lv_room (Nat.le_of_ble_eq_true rfl)) dL_law_12 ⟨(Nat.le_of_ble_eq_true rfl), (Nat.le_of_ble_eq_true rfl)⟩) hP hD hS hA [15] [0, 1, 2, 3, 4, 5, 6, 7, 8, 9, 10, 11, 12, 13, 14] rfl rfl rfl (by decide) (fun r w1 H locs hΦ hP hD hS => ?_)
  obtain ⟨mr, ml, ms, mv, rfl, rfl⟩ := hΦ
  have hP : va_P (dC, dI) vwCl ([(b, .inr (5, [.ref ro, .ref gr, .ref br, .int 0, .int 0])), (ro, .inr (4, [.ref b0, .ref b1, .ref b2, .ref b3, .ref b4, .ref b5, .ref b6, .ref b7, .ref b8])), (b0, .inl (cA 0, 8, .inl (lz 8))), (b1, .inl (cA 0, 39, .inl (r0 (fun _ _ => 0)))), (b2, .inl (cA 1, 39, .inr (.inl (r1 (fun _ _ => 0))))), (b3, .inl (cA 2, 39, .inl (r2 (fun _ _ => 0)))), (b4, .inl (cA 3, 39, .inl (r3 (fun _ _ => 0)))), (b5, .inl (cA 4, 39, .inl (r4 (fun _ _ => 0)))), (b6, .inl (cA 5, 39, .inl (r5 (fun _ _ => 0)))), (b7, .inl (cA 6, 39, .inr (.inr (.inl (r6 (fun _ _ => 0)))))), (b8, .inl (cA 7, 39, .inr (.inr (.inr (.inl (r7 (fun _ _ => 0))))))), (gr, .inr (3, [.ref gc, .int 0, .int 0, .int 0])), (gc, .inl (cA 9, 8, .inr (.inr (.inr (.inr (fun i => some (ga i))))))), (br, .inr (1, [.ref pl, .int 0, .int 0, .int 0])), (pl, .inl (cA 8, 19, .inr (.inr (.inr (.inr (fun _ => none)))))), (mo, .inr (6, [.int 0, .ref mr, .ref ml, .int 0, .int 0, .int 0, .int 0, .int 0, .int 0, .int 0, .int 0, .ref ms, .ref mv])), (mr, .inl (cA 1, 320, .inr (.inl (fun _ => 0)))), (ml, .inl (cA 0, 8, .inl (lz 8))), (ms, .inl (cA 0, 20, .inl (fun _ => 0))), (mv, .inl (cA 0, 20, .inl (fun _ => 0)))] ++ rws (cA 0) ga (gmx 8 0)) H := hP
  have hD : va_D A ([(b, .inr (5, [.ref ro, .ref gr, .ref br, .int 0, .int 0])), (ro, .inr (4, [.ref b0, .ref b1, .ref b2, .ref b3, .ref b4, .ref b5, .ref b6, .ref b7, .ref b8])), (b0, .inl (cA 0, 8, .inl (lz 8))), (b1, .inl (cA 0, 39, .inl (r0 (fun _ _ => 0)))), (b2, .inl (cA 1, 39, .inr (.inl (r1 (fun _ _ => 0))))), (b3, .inl (cA 2, 39, .inl (r2 (fun _ _ => 0)))), (b4, .inl (cA 3, 39, .inl (r3 (fun _ _ => 0)))), (b5, .inl (cA 4, 39, .inl (r4 (fun _ _ => 0)))), (b6, .inl (cA 5, 39, .inl (r5 (fun _ _ => 0)))), (b7, .inl (cA 6, 39, .inr (.inr (.inl (r6 (fun _ _ => 0)))))), (b8, .inl (cA 7, 39, .inr (.inr (.inr (.inl (r7 (fun _ _ => 0))))))), (gr, .inr (3, [.ref gc, .int 0, .int 0, .int 0])), (gc, .inl (cA 9, 8, .inr (.inr (.inr (.inr (fun i => some (ga i))))))), (br, .inr (1, [.ref pl, .int 0, .int 0, .int 0])), (pl, .inl (cA 8, 19, .inr (.inr (.inr (.inr (fun _ => none)))))), (mo, .inr (6, [.int 0, .ref mr, .ref ml, .int 0, .int 0, .int 0, .int 0, .int 0, .int 0, .int 0, .int 0, .ref ms, .ref mv])), (mr, .inl (cA 1, 320, .inr (.inl (fun _ => 0)))), (ml, .inl (cA 0, 8, .inl (lz 8))), (ms, .inl (cA 0, 20, .inl (fun _ => 0))), (mv, .inl (cA 0, 20, .inl (fun _ => 0)))] ++ rws (cA 0) ga (gmx 8 0)) := hD
  refine lv_astore_n (lv' := [(2, .ref mo), (1, .ref b), (0, .ref sb)]) hx hb dL_law_15 rfl hl (by decide) rfl (fun ls hl => ?_)
  refine lv_iconst (v := 1) hx hb dL_law_16 (by decide) ?_
  refine va_newa (atype := .long) (ty := .long) (N' := 1) (a0 := (1, .inr (.inl (fun _ => 0)))) hx hb (k_61 h hb0) rfl hK hP hD hS hA (fun _ => rfl) (by decide) (by decide) (by decide) (Nat.le_of_ble_eq_true rfl) (Nat.le_of_ble_eq_true rfl) dL_law_17 (fun lk cN H hKn hP hD hS => ?_)
  obtain rfl : cN = cA 1 := xRA_eq (hKn.2 10 _ rfl).2 (hK.2 1 _ rfl).2
  clear hKn
  have hP := va_P.swap hP
  have hD := va_D.swap hD
  have hP : va_P (dC, dI) vwCl ([(b, .inr (5, [.ref ro, .ref gr, .ref br, .int 0, .int 0])), (ro, .inr (4, [.ref b0, .ref b1, .ref b2, .ref b3, .ref b4, .ref b5, .ref b6, .ref b7, .ref b8])), (b0, .inl (cA 0, 8, .inl (lz 8))), (b1, .inl (cA 0, 39, .inl (r0 (fun _ _ => 0)))), (b2, .inl (cA 1, 39, .inr (.inl (r1 (fun _ _ => 0))))), (b3, .inl (cA 2, 39, .inl (r2 (fun _ _ => 0)))), (b4, .inl (cA 3, 39, .inl (r3 (fun _ _ => 0)))), (b5, .inl (cA 4, 39, .inl (r4 (fun _ _ => 0)))), (b6, .inl (cA 5, 39, .inl (r5 (fun _ _ => 0)))), (b7, .inl (cA 6, 39, .inr (.inr (.inl (r6 (fun _ _ => 0)))))), (b8, .inl (cA 7, 39, .inr (.inr (.inr (.inl (r7 (fun _ _ => 0))))))), (gr, .inr (3, [.ref gc, .int 0, .int 0, .int 0])), (gc, .inl (cA 9, 8, .inr (.inr (.inr (.inr (fun i => some (ga i))))))), (br, .inr (1, [.ref pl, .int 0, .int 0, .int 0])), (pl, .inl (cA 8, 19, .inr (.inr (.inr (.inr (fun _ => none)))))), (mo, .inr (6, [.int 0, .ref mr, .ref ml, .int 0, .int 0, .int 0, .int 0, .int 0, .int 0, .int 0, .int 0, .ref ms, .ref mv])), (mr, .inl (cA 1, 320, .inr (.inl (fun _ => 0)))), (ml, .inl (cA 0, 8, .inl (lz 8))), (ms, .inl (cA 0, 20, .inl (fun _ => 0))), (mv, .inl (cA 0, 20, .inl (fun _ => 0))), (lk, .inl (cA 1, 1, .inr (.inl (fun _ => 0))))] ++ rws (cA 0) ga (gmx 8 0)) H := hP
  have hD : va_D A ([(b, .inr (5, [.ref ro, .ref gr, .ref br, .int 0, .int 0])), (ro, .inr (4, [.ref b0, .ref b1, .ref b2, .ref b3, .ref b4, .ref b5, .ref b6, .ref b7, .ref b8])), (b0, .inl (cA 0, 8, .inl (lz 8))), (b1, .inl (cA 0, 39, .inl (r0 (fun _ _ => 0)))), (b2, .inl (cA 1, 39, .inr (.inl (r1 (fun _ _ => 0))))), (b3, .inl (cA 2, 39, .inl (r2 (fun _ _ => 0)))), (b4, .inl (cA 3, 39, .inl (r3 (fun _ _ => 0)))), (b5, .inl (cA 4, 39, .inl (r4 (fun _ _ => 0)))), (b6, .inl (cA 5, 39, .inl (r5 (fun _ _ => 0)))), (b7, .inl (cA 6, 39, .inr (.inr (.inl (r6 (fun _ _ => 0)))))), (b8, .inl (cA 7, 39, .inr (.inr (.inr (.inl (r7 (fun _ _ => 0))))))), (gr, .inr (3, [.ref gc, .int 0, .int 0, .int 0])), (gc, .inl (cA 9, 8, .inr (.inr (.inr (.inr (fun i => some (ga i))))))), (br, .inr (1, [.ref pl, .int 0, .int 0, .int 0])), (pl, .inl (cA 8, 19, .inr (.inr (.inr (.inr (fun _ => none)))))), (mo, .inr (6, [.int 0, .ref mr, .ref ml, .int 0, .int 0, .int 0, .int 0, .int 0, .int 0, .int 0, .int 0, .ref ms, .ref mv])), (mr, .inl (cA 1, 320, .inr (.inl (fun _ => 0)))), (ml, .inl (cA 0, 8, .inl (lz 8))), (ms, .inl (cA 0, 20, .inl (fun _ => 0))), (mv, .inl (cA 0, 20, .inl (fun _ => 0))), (lk, .inl (cA 1, 1, .inr (.inl (fun _ => 0))))] ++ rws (cA 0) ga (gmx 8 0)) := hD
  refine lv_astore_n (lv' := [(3, .ref lk), (2, .ref mo), (1, .ref b), (0, .ref sb)]) hx hb dL_law_19 rfl hl (by decide) rfl (fun ls hl => ?_)
  refine lv_iconst (v := 0) hx hb dL_law_20 (by decide) ?_
  refine lv_istore (lv' := [(4, .int 0), (3, .ref lk), (2, .ref mo), (1, .ref b), (0, .ref sb)]) hx hb dL_law_21 hl (by decide) rfl (fun ls hl => ?_)
  have hI : lI A s dC dI cA sb 0 ls H locs := ⟨b, ro, b0, b1, b2, b3, b4, b5, b6, b7, b8, gr, gc, br, pl, mo, mr, ml, ms, mv, lk, ga, (lz 8), (fun _ _ => 0), (fun _ => 0), (fun _ => 0), (fun _ => 0), 0, 0, 0, 0, 0, 0, 0, 0, 0, (fun _ => none), [], (fun _ => .inr (0, [])), (fun _ => 0), lv_sub hl [0, 1, 2, 3, 4] rfl, by rw [show rws (cA 0) ga (gmx 8 0) ++ va_pl [] (fun _ => .inr (0, [])) = rws (cA 0) ga (gmx 8 0) from List.append_nil _]; exact va_P.part hP [0, 1, 2, 3, 4, 5, 6, 7, 8, 9, 10, 11, 12, 13, 14, 15, 16, 17, 18, 19, 20] rfl, by rw [show rws (cA 0) ga (gmx 8 0) ++ va_pl [] (fun _ => .inr (0, [])) = rws (cA 0) ga (gmx 8 0) from List.append_nil _]; exact va_D.part hD [0, 1, 2, 3, 4, 5, 6, 7, 8, 9, 10, 11, 12, 13, 14, 15, 16, 17, 18, 19, 20] rfl rfl, hS, fun K hK8 => ⟨3, by decide, by simp [lz, hK8]; rfl, fun i _ => (rd_0 K hK8).symm⟩, Or.inl rfl, ⟨0, by decide, rfl⟩, ⟨0, by decide, rfl⟩, Or.inl rfl, 0, by decide, rfl, fun i hi => absurd hi (Nat.not_lt_zero _), fun i j a hi => absurd hi (Nat.not_lt_zero _)⟩
  refine W.widen (k := 40 + 3 * 0) (n := 900 + 20 * 0) (by decide) (by decide) ?_
  refine xloop2 (σ := Array Slot × Heap × List Loc) (fun t z => lI A s dC dI cA sb t z.1 z.2.1 z.2.2) (fun t z => W p l e room_1 s m #[Value.ref sb] below meth c z.2.1 z.2.2 (40 + 3 * t) (900 + 20 * t) (lw_Z below #[Value.ref sb] s) (F0 m 23 z.1 [])) (L / 6) ?_ ?_ (L / 6) 0 (ls, H, locs) (Nat.zero_add _) hI
  · rintro t ⟨ls, H, locs⟩ ht hI ih
    exact lo_round hC (by omega) hI (fun ls H locs hI => ih (ls, H, locs) hI)
  · rintro ⟨ls, H, locs⟩ hI
    have hbA : ¬ A sb := fun z => absurd hbl (Nat.not_lt.mpr (hz _ z))
    obtain ⟨b, ro, b0, b1, b2, b3, b4, b5, b6, b7, b8, gr, gc, br, pl, mo, mr, ml, ms, mv, lk, ga, n, g, f, so, va, wr, ca, gm, gh, gw, bm, bd, bc, th, pf, LP, bx, lf, hl, hP, hD, hS, hpure⟩ := hI
    show W p l e room_1 s m #[Value.ref sb] below meth c H locs (40 + 3 * (L / 6)) (900 + 20 * (L / 6)) (lw_Z below #[Value.ref sb] s) (F0 m 23 ls [])
    refine va_forget (fun q hq => hz _ (hS.2.2 q hq)) ?_
    have hS : va_S A s.heap H [] := ⟨hS.1, hS.2.1, fun _ z => nomatch z⟩
    refine lv_iload hx hb dL_law_23 (lv_at hl 0 rfl) ?_
    refine lv_aload_n hx hb dL_law_25 rfl (lv_at hl 4 rfl) ?_
    refine va_slen hx hb hX hbl hbA hS dL_law_26 ?_
    refine lv_bipush (v := 6) hx hb dL_law_27 (by decide) ?_
    refine lv_isub hx hb dL_law_29 ?_
    refine lv_icmp_gt (tgt := 1392) hx hb dL_law_30 (by decide) (fun c1 => ?_) (fun c1 => ?_)
    · refine lv_iconst (v := 1) hx hb dL_law_1392 (by decide) ?_
      refine W.widen (k := 806833) (n := 6675604) (by omega) (by omega) ?_
      exact lw_ret hx hb hr hlocks dL_law_1393
    · exfalso
      apply c1
      show nI L - nI 6 < nI (6 * (L / 6))
      rw [Int32.lt_iff_toInt_lt, pk_sub_toInt (by omega) (by decide), nI_toInt (by omega)]
      omega
set_option maxHeartbeats 4000000 in
theorem lw_walk (l : Launch) (hfl : l.flags = flags0) (b : Addr) (xs : List Int32) : MetFree l x (headSpec (Jvm.Cond.code x code maxLocals ret :: tables_1) room_1) (lw_P b xs) (fun _ _ _ _ _ => True) lw_Q := by
  refine MetFree.of_bodyS (code := code) (maxLocals := maxLocals) (ret := ret) (by decide) ?_ ?_
  · intro args s m h hn
    obtain ⟨meth, c, h1, h2, h3, h4, h5, h6, -, -⟩ := Cond.code_spec hn (atoms_spec (ws := Jvm.Cond.code x code maxLocals ret :: tables_1) h _ List.mem_cons_self)
    exact ⟨meth, c, h1, h2, h3, h4, h5, h6⟩
  · intro p e s m args below meth c s₁ B hml0 hP _
    obtain ⟨rfl, hx, hbd, hgv⟩ := hP
    obtain ⟨scr, harrAt, hlist, hof, hsmall⟩ := hx
    obtain ⟨hcb, hkn, -, -⟩ := State.arrayAt?_spec harrAt
    have hown : s.vm.findClass R_law = some m.cls := findClass_of_methodNamed B.named
    have hts0 : ∀ c ∈ (Jvm.Cond.code x code maxLocals ret :: tables_1), c.before #[Value.ref b] s = true := atoms_spec (ws := Jvm.Cond.code x code maxLocals ret :: tables_1) B.pre
    have hts : ∀ w ∈ lw_tbl, w.before #[Value.ref b] s = true := k2_hts_sels lw_privs (fun w hw => hts0 w (List.mem_cons_of_mem _ hw)) lw_privs_ok
    have hml : c.maxLocals = 8 := B.maxLocals_eq (hts0 _ List.mem_cons_self)
    have X₀ : Stand p l e room_1 s m #[Value.ref b] below meth c s₁ [] 0 0 := Stand.of_body B
    have hh0 : s₁.heap = s.heap := by rw [B.state]; rfl
    have hsz : scr.slots.size = xs.length := by rw [← Array.length_toList, hlist, List.length_map]
    have hval : ∀ j : Nat, j < xs.length → scr.slots[j]? = some (.int (xs.getD j 0)) := fun j hj => by
      rw [← Array.getElem?_toList, hlist]
      simp [hj]
    have hbl : b < s.heap.size := (Array.getElem?_eq_some_iff.mp hcb).1
    have hX : va_X b xs.length (fun j => xs.getD j 0) s s.heap := ⟨scr, hcb, hof, hkn, hsz, hval⟩
    have K : W p l e room_1 s m #[Value.ref b] below meth c s₁.heap [] 0 0 (lw_Z below #[Value.ref b] s) (entryFrame m ([Value.ref b] : List Value).toArray 8) := by
      rw [hh0]
      exact whole_start l (by show (!l.flags.contains noTraceFlag) = false; rw [hfl]; decide +kernel) hbd ⟨B.exec, B.bytes, B.returns, hml, hown, hts, hX, hbl, B.notSynchronized, hgv⟩
    obtain ⟨t, a1, o, b1, b2, b3⟩ := K s₁ rfl X₀
    exact ⟨t, o, a1, b1, b2, b3⟩
theorem lw_pre_spec {args : Array Value} {s : State} (h : (Jvm.Cond.and given_1 narrow_1).before args s = true) (hr : rest_1_c.before args s = true) : ∃ (b : Addr) (xs : List Int32), lw_P b xs args s := by
  have hs := flat_of_before _ h
  have hq := flat_of_before _ hr
  have hc : (Cond.count 1).before args s = true := hs _ (by decide +kernel)
  have harr : (Cond.arrayOf (.arg 0) .int).before args s = true := hs _ (by decide +kernel)
  have hle : (Cond.le (.length (.arg 0)) (.int 3072)).before args s = true := hs _ (by decide +kernel)
  have hlen : (Cond.isInt (.length (.arg 0))).before args s = true := hq _ (by decide +kernel)
  have hall : (Cond.all (.arg 0) (.isInt (.elem (.arg 0) (.index 0)))).before args s = true := hq _ (by decide +kernel)
  obtain ⟨b, xs, hb, hx⟩ := State.ints_of_pre rfl harr hlen hall
  have hsm : xs.length < 2 ^ 31 := hx.choose_spec.2.2.2
  have hev : (Term.length (.arg 0)).eval args s none [] s = some (.int xs.length.toInt32) := hx.length_eval hb
  have hv := Cond.le_ints hev (show (Term.int 3072).eval args s none [] s = some (.int 3072) from rfl)
  have hd : xs.length.toInt32 ≤ 3072 := by
    simpa [Cond.before, Cond.holds, hv] using hle
  have hN : xs.length ≤ 3072 := (Int32.ofNat_le_ofNat hsm (by decide)).mp (show Int32.ofNat xs.length ≤ Int32.ofNat 3072 from hd)
  exact ⟨b, xs, Cond.one_arg hc (show args[0]? = some (.ref b) from hb), hx, hN, h⟩
theorem lw_comes (l : Launch) (hfl : l.flags = flags0) : Comes l x (Jvm.Cond.code x code maxLocals ret :: tables_1) room_1 (fun tb e args s => Calls_1 tb e args s ∧ rest_1 tb e args s ∧ Pre_1 tb e args s)
    (fun _ _ args s o t => lw_Q args s o t) := by
  intro p e ha hc hk s m args below hf hfit hheap happ hpre
  obtain ⟨b, xs, hP⟩ := lw_pre_spec hpre.2.2 hpre.2.1
  obtain ⟨k, o, h1, h2, h3, hQ⟩ := lw_walk l hfl b xs p e ha hc hk s m args below hf ((Spec.applies_iff_loose hf).mp happ).1 hP trivial
  exact ⟨k, o, h1, h2, h3, hQ⟩
theorem lw_frame {s t : State} {o : Outcome} {args : Array Value} (h : Framed s o t [] 806833 6675604) :
    Framed s o t (fieldLocs frame_1_writes args s ++ arrayLocs frame_1_arrays args s ++ staticLocs frame_1_statics s) 806833 6675604 := h
theorem lw_limb (L : Cond) (hL : ∀ (args : Array Value) (s t : State), L.after args s (.returned (some (.int 1))) t = true) :
    ArmFor flags0 classFile x code maxLocals ret World_1 tables_1 room_1 Calls_1 rest_1 Pre_1
      (fun tb e a s o t => postC L tb e a s o t ∧ Framed s o t (fieldLocs frame_1_writes a s ++ arrayLocs frame_1_arrays a s ++ staticLocs frame_1_statics s) 806833 6675604) := by
  intro l hfl _ _ p e ha hc hk s m args below hf hfit hheap happ hpre
  obtain ⟨k, o, h1, h2, h3, rfl, hF⟩ := lw_comes l hfl p e ha hc hk s m args below hf hfit hheap happ hpre
  exact ⟨k, _, h1, h2, h3, hL args s _, lw_frame hF⟩
theorem i_vc : Claimed_1_1 ∧ Claimed_1_2 := ⟨lw_limb limb_1_1 (fun args s t => by simp [limb_1_1, Cond.after, Cond.holds, Cond.value]), lw_limb limb_1_2 (fun args s t => Cond.after_iff.mpr (by
  first | (rw [show limb_1_2 = Cond.eq .result (.int 1) from rfl, Cond.eq_ints (x := 1) (y := 1) rfl rfl]; simp; done) | (simp [limb_1_2, Cond.value, Term.eval]; done)))⟩

