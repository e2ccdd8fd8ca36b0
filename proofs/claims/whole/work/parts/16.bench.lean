set_option maxHeartbeats 4000000 in
set_option maxRecDepth 100000 in
theorem c_read {l : Launch} {s0 : State} {a0 : Array Value} {dC : Nat → ClassId} {dI : Nat → Nat → Nat} {cA : Nat → ClassId} (h : xC l s0 a0 dC dI cA) (b gr br : Nat) (wr ca : Int32) (ro b0 b1 b2 b3 b4 b5 b6 b7 b8 : Nat) (n : Nat → Int32) (g : Nat → Nat → Int32) (K : Nat) (p1 p2 p3 : Int32) (hKe : p1 &&& 7 = nI K) (hK8 : K < 8) (ht : ¬ p2 = 0) (h0 : ¬ p3 < 0) (h1 : p3 < n K) (hi : vp_in p3 39) : Met l yX5_read [Cond.code yX5_read cX5_read 5 (some .long)] ({ frames := 1, cells := 0, slots := 0, locals := 40 } : Room) (xP s0 (dC, dI) [.ref b, .int p1, .int p2, .int p3] [(b, .inr (5, [.ref ro, .ref gr, .ref br, .int wr, .int ca])), (ro, .inr (4, [.ref b0, .ref b1, .ref b2, .ref b3, .ref b4, .ref b5, .ref b6, .ref b7, .ref b8])), (b0, .inl (cA 0, 8, .inl n)), (b1, .inl (cA 0, 39, .inl (r0 g))), (b2, .inl (cA 1, 39, .inr (.inl (r1 g)))), (b3, .inl (cA 2, 39, .inl (r2 g))), (b4, .inl (cA 3, 39, .inl (r3 g))), (b5, .inl (cA 4, 39, .inl (r4 g))), (b6, .inl (cA 5, 39, .inl (r5 g))), (b7, .inl (cA 6, 39, .inr (.inr (.inl (r6 g))))), (b8, .inl (cA 7, 39, .inr (.inr (.inr (.inl (r7 g))))))]) (xR (some (.long (rd K (g K p3.toNatClampNeg))))) 0 0 (fun _ => False) := by
  refine Met.ofW (cc := cX5_read) (maxL := 5) (ret := (some .long)) (by decide) rfl ?_
  intro p e s m args below meth c s₁ B hml hv
  obtain ⟨rfl, hb0, hP⟩ := hv
  have hx := B.exec
  have hb := B.bytes
  have hr := B.returns
  have hown : s.vm.findClass RX5 = some m.cls := findClass_of_methodNamed B.named
  have hlocks := B.notSynchronized
  have hK := h.K hb0
  have hS : va_S (fun _ : Nat => False) s.heap s.heap [] := va_S.rf
  have hz : ∀ q : Nat, (fun _ : Nat => False) q → s0.heap.size ≤ q := fun _ z => z.elim
  have hl := lv_entry ([.ref b, .int p1, .int p2, .int p3]) (n := 5) (Nat.le_of_ble_eq_true rfl)
  rw [lg_entry_eq]
  generalize (lg_sl ([.ref b, .int p1, .int p2, .int p3]) ++ List.replicate (5 - (lg_sl ([.ref b, .int p1, .int p2, .int p3])).length) Slot.unset).toArray = ls at hl ⊢
  have hl : lv_has ls 5 [(0, .ref b), (1, .int p1), (2, .int p2), (3, .int p3)] := hl
  refine lv_iload_n hx hb dX5_read_0 rfl (lv_at hl 1 rfl) ?_
  refine xr_1 (va_runS (As := [.int p1]) (rest := []) ⟨hx, hb, hml, hown, xTs⟩ (c_kindOf h _) ⟨xB (n := 1) (k_137 h hb0) (k_1 h hb0) (k_135 h hb0) (by decide) rfl rfl rfl (by decide) (by decide), (k_136 h hb0)⟩ (xpS hb0 hS hz (va_P.sub hP [] rfl)) rfl rfl hl.1 rfl (lv_room (Nat.le_of_ble_eq_true rfl)) dX5_read_1 ⟨(Nat.le_of_ble_eq_true rfl), (Nat.le_of_ble_eq_true rfl)⟩) ?_
  rw [hKe]
  refine lv_istore (lv' := [(4, .int (nI K)), (0, .ref b), (1, .int p1), (2, .int p2), (3, .int p3)]) hx hb dX5_read_4 hl (by decide) rfl (fun ls hl => ?_)
  refine lv_iload_n hx hb dX5_read_6 rfl (lv_at hl 3 rfl) ?_
  refine xr_0 (va_runS (As := [.int p2]) (rest := []) ⟨hx, hb, hml, hown, xTs⟩ (c_needThere h _ ht) ⟨xB (n := 1) (k_140 h hb0) (k_1 h hb0) (k_138 h hb0) (by decide) rfl rfl rfl (by decide) (by decide), (k_139 h hb0)⟩ (xpS hb0 hS hz (va_P.sub hP [] rfl)) rfl rfl hl.1 rfl (lv_room (Nat.le_of_ble_eq_true rfl)) dX5_read_7 ⟨(Nat.le_of_ble_eq_true rfl), (Nat.le_of_ble_eq_true rfl)⟩) ?_
  refine lv_iload_n hx hb dX5_read_10 rfl (lv_at hl 4 rfl) ?_
  refine lv_aload_n hx hb dX5_read_11 rfl (lv_at hl 1 rfl) ?_
  refine va_get (D := (dC, dI)) (ci := 5) (v := .ref ro) (C := RX5) (T := TX5) (N := 5) hx hb (ly_5 h hb0) (fun _ z => z) hown hK hP 0 rfl rfl 0 (by decide) (k_110 h hb0) (fun _ z => z) rfl dX5_read_12 ?_
  refine lv_iload hx hb dX5_read_15 (lv_at hl 0 rfl) ?_
  refine xr_1 (va_runV (As := [.int (nI K)]) (rest := [.int p3]) ⟨hx, hb, hml, hown, xTs⟩ (c_cellCount h ro b0 b1 b2 b3 b4 b5 b6 b7 b8 n g (nI K) (vp_in_nI hK8 (by decide))) ⟨xB (n := 1) (k_229 h hb0) (k_2 h hb0) (k_226 h hb0) (by decide) rfl rfl rfl (by decide) (by decide), (k_227 h hb0), (k_228 h hb0)⟩ (xpV hb0 hS hz (va_P.sub hP [1, 2] rfl) (va_recv hK hP (ci := 4) (q0 := 1) rfl rfl)) rfl rfl hl.1 rfl (lv_room (Nat.le_of_ble_eq_true rfl)) dX5_read_17 ⟨(Nat.le_of_ble_eq_true rfl), (Nat.le_of_ble_eq_true rfl)⟩) ?_
  rw [nI_clamp (Nat.lt_trans hK8 (by decide))]
  refine xr_0 (va_runS (As := [.int p3, .int (n K)]) (rest := []) ⟨hx, hb, hml, hown, xTs⟩ (c_needPlace h _ _ h0 h1) ⟨xB (n := 2) (k_232 h hb0) (k_1 h hb0) (k_230 h hb0) (by decide) rfl rfl rfl (by decide) (by decide), (k_231 h hb0)⟩ (xpS hb0 hS hz (va_P.sub hP [] rfl)) rfl rfl hl.1 rfl (lv_room (Nat.le_of_ble_eq_true rfl)) dX5_read_20 ⟨(Nat.le_of_ble_eq_true rfl), (Nat.le_of_ble_eq_true rfl)⟩) ?_
  refine lv_aload_n hx hb dX5_read_23 rfl (lv_at hl 1 rfl) ?_
  refine va_get (D := (dC, dI)) (ci := 5) (v := .ref ro) (C := RX5) (T := TX5) (N := 5) hx hb (ly_5 h hb0) (fun _ z => z) hown hK hP 0 rfl rfl 0 (by decide) (k_110 h hb0) (fun _ z => z) rfl dX5_read_24 ?_
  refine lv_iload hx hb dX5_read_27 (lv_at hl 0 rfl) ?_
  refine lv_iload_n hx hb dX5_read_29 rfl (lv_at hl 4 rfl) ?_
  refine xr_1 (va_runV (As := [.int (nI K), .int p3]) (rest := []) ⟨hx, hb, hml, hown, xTs⟩ (c_numberAt h ro b0 b1 b2 b3 b4 b5 b6 b7 b8 n g K p3 hK8 hi) ⟨xB (n := 2) (k_257 h hb0) (k_2 h hb0) (k_254 h hb0) (by decide) rfl rfl rfl (by decide) (by decide), (k_255 h hb0), (k_256 h hb0)⟩ (xpV hb0 hS hz (va_P.sub hP [1, 3, 4, 5, 6, 7, 8, 9, 10] rfl) (va_recv hK hP (ci := 4) (q0 := 1) rfl rfl)) rfl rfl hl.1 rfl (lv_room (Nat.le_of_ble_eq_true rfl)) dX5_read_30 ⟨(Nat.le_of_ble_eq_true rfl), (Nat.le_of_ble_eq_true rfl)⟩) ?_
  exact W.lret hx hb hr (fun t ht _ => ⟨rfl, ht⟩) (fun q z => nomatch z) dX5_read_33
set_option maxHeartbeats 4000000 in
set_option maxRecDepth 100000 in
theorem t_read_N {l : Launch} {s0 : State} {a0 : Array Value} {dC : Nat → ClassId} {dI : Nat → Nat → Nat} {cA : Nat → ClassId} (h : xC l s0 a0 dC dI cA) (b gr br : Nat) (wr ca : Int32) (ro b0 b1 b2 b3 b4 b5 b6 b7 b8 : Nat) (n : Nat → Int32) (g : Nat → Nat → Int32) (K : Nat) (p1 p2 p3 : Int32) (hKe : p1 &&& 7 = nI K) (hK8 : K < 8) (ht : p2 = 0) : xt_Met l yX5_read [Cond.code yX5_read cX5_read 5 (some .long)] ({ frames := 8, cells := 1, slots := 8, locals := 140 } : Room) (xP s0 (dC, dI) [.ref b, .int p1, .int p2, .int p3] [(b, .inr (5, [.ref ro, .ref gr, .ref br, .int wr, .int ca])), (ro, .inr (4, [.ref b0, .ref b1, .ref b2, .ref b3, .ref b4, .ref b5, .ref b6, .ref b7, .ref b8])), (b0, .inl (cA 0, 8, .inl n))]) "java/lang/NullPointerException" 1 8 := by
  refine xt_ofW (cc := cX5_read) (maxL := 5) (ret := (some .long)) (by decide) rfl ?_
  intro p e s m args below meth c s₁ B hml hout hv
  obtain ⟨rfl, hb0, hP⟩ := hv
  have hx := B.exec
  have hb := B.bytes
  have hr := B.returns
  have hown : s.vm.findClass RX5 = some m.cls := findClass_of_methodNamed B.named
  have hlocks := B.notSynchronized
  have hK := h.K hb0
  have hS : va_S (fun _ : Nat => False) s.heap s.heap [] := va_S.rf
  have hz : ∀ q : Nat, (fun _ : Nat => False) q → s0.heap.size ≤ q := fun _ z => z.elim
  have hl := lv_entry ([.ref b, .int p1, .int p2, .int p3]) (n := 5) (Nat.le_of_ble_eq_true rfl)
  rw [lg_entry_eq]
  generalize (lg_sl ([.ref b, .int p1, .int p2, .int p3]) ++ List.replicate (5 - (lg_sl ([.ref b, .int p1, .int p2, .int p3])).length) Slot.unset).toArray = ls at hl ⊢
  have hl : lv_has ls 5 [(0, .ref b), (1, .int p1), (2, .int p2), (3, .int p3)] := hl
  refine lv_iload_n hx hb dX5_read_0 rfl (lv_at hl 1 rfl) ?_
  refine xr_1 (va_runS (As := [.int p1]) (rest := []) ⟨hx, hb, hml, hown, xTs⟩ (c_kindOf h _) ⟨xB (n := 1) (k_137 h hb0) (k_1 h hb0) (k_135 h hb0) (by decide) rfl rfl rfl (by decide) (by decide), (k_136 h hb0)⟩ (xpS hb0 hS hz (va_P.sub hP [] rfl)) rfl rfl hl.1 rfl (lv_room (Nat.le_of_ble_eq_true rfl)) dX5_read_1 ⟨(Nat.le_of_ble_eq_true rfl), (Nat.le_of_ble_eq_true rfl)⟩) ?_
  rw [hKe]
  refine lv_istore (lv' := [(4, .int (nI K)), (0, .ref b), (1, .int p1), (2, .int p2), (3, .int p3)]) hx hb dX5_read_4 hl (by decide) rfl (fun ls hl => ?_)
  refine lv_iload_n hx hb dX5_read_6 rfl (lv_at hl 3 rfl) ?_
  exact xt_callS (As := [.int p2]) (rest := []) ⟨hx, hb, hml, hown, xTs⟩ (t_needThere h _ ht) ⟨xB (n := 1) (k_140 h hb0) (k_1 h hb0) (k_138 h hb0) (by decide) rfl rfl rfl (by decide) (by decide), (k_139 h hb0)⟩ (xpS hb0 hS hz (va_P.sub hP [] rfl)) rfl rfl hl.1 rfl (lv_room (Nat.le_of_ble_eq_true rfl)) dX5_read_7 ⟨(Nat.le_of_ble_eq_true rfl), (Nat.le_of_ble_eq_true rfl)⟩ (fun q ce H1 h1 h2 h3 h4 h5 => xt_out hout hlocks h1 h2 h3 (Nat.le_of_ble_eq_true rfl) (Nat.le_of_ble_eq_true rfl))
set_option maxHeartbeats 4000000 in
set_option maxRecDepth 100000 in
theorem t_read_A {l : Launch} {s0 : State} {a0 : Array Value} {dC : Nat → ClassId} {dI : Nat → Nat → Nat} {cA : Nat → ClassId} (h : xC l s0 a0 dC dI cA) (b gr br : Nat) (wr ca : Int32) (ro b0 b1 b2 b3 b4 b5 b6 b7 b8 : Nat) (n : Nat → Int32) (g : Nat → Nat → Int32) (K : Nat) (p1 p2 p3 : Int32) (hKe : p1 &&& 7 = nI K) (hK8 : K < 8) (ht : ¬ p2 = 0) (hc : p3 < 0 ∨ ¬ p3 < n K) : xt_Met l yX5_read [Cond.code yX5_read cX5_read 5 (some .long)] ({ frames := 8, cells := 1, slots := 8, locals := 140 } : Room) (xP s0 (dC, dI) [.ref b, .int p1, .int p2, .int p3] [(b, .inr (5, [.ref ro, .ref gr, .ref br, .int wr, .int ca])), (ro, .inr (4, [.ref b0, .ref b1, .ref b2, .ref b3, .ref b4, .ref b5, .ref b6, .ref b7, .ref b8])), (b0, .inl (cA 0, 8, .inl n))]) "java/lang/ArrayIndexOutOfBoundsException" 1 8 := by
  refine xt_ofW (cc := cX5_read) (maxL := 5) (ret := (some .long)) (by decide) rfl ?_
  intro p e s m args below meth c s₁ B hml hout hv
  obtain ⟨rfl, hb0, hP⟩ := hv
  have hx := B.exec
  have hb := B.bytes
  have hr := B.returns
  have hown : s.vm.findClass RX5 = some m.cls := findClass_of_methodNamed B.named
  have hlocks := B.notSynchronized
  have hK := h.K hb0
  have hS : va_S (fun _ : Nat => False) s.heap s.heap [] := va_S.rf
  have hz : ∀ q : Nat, (fun _ : Nat => False) q → s0.heap.size ≤ q := fun _ z => z.elim
  have hl := lv_entry ([.ref b, .int p1, .int p2, .int p3]) (n := 5) (Nat.le_of_ble_eq_true rfl)
  rw [lg_entry_eq]
  generalize (lg_sl ([.ref b, .int p1, .int p2, .int p3]) ++ List.replicate (5 - (lg_sl ([.ref b, .int p1, .int p2, .int p3])).length) Slot.unset).toArray = ls at hl ⊢
  have hl : lv_has ls 5 [(0, .ref b), (1, .int p1), (2, .int p2), (3, .int p3)] := hl
  refine lv_iload_n hx hb dX5_read_0 rfl (lv_at hl 1 rfl) ?_
  refine xr_1 (va_runS (As := [.int p1]) (rest := []) ⟨hx, hb, hml, hown, xTs⟩ (c_kindOf h _) ⟨xB (n := 1) (k_137 h hb0) (k_1 h hb0) (k_135 h hb0) (by decide) rfl rfl rfl (by decide) (by decide), (k_136 h hb0)⟩ (xpS hb0 hS hz (va_P.sub hP [] rfl)) rfl rfl hl.1 rfl (lv_room (Nat.le_of_ble_eq_true rfl)) dX5_read_1 ⟨(Nat.le_of_ble_eq_true rfl), (Nat.le_of_ble_eq_true rfl)⟩) ?_
  rw [hKe]
  refine lv_istore (lv' := [(4, .int (nI K)), (0, .ref b), (1, .int p1), (2, .int p2), (3, .int p3)]) hx hb dX5_read_4 hl (by decide) rfl (fun ls hl => ?_)
  refine lv_iload_n hx hb dX5_read_6 rfl (lv_at hl 3 rfl) ?_
  refine xr_0 (va_runS (As := [.int p2]) (rest := []) ⟨hx, hb, hml, hown, xTs⟩ (c_needThere h _ ht) ⟨xB (n := 1) (k_140 h hb0) (k_1 h hb0) (k_138 h hb0) (by decide) rfl rfl rfl (by decide) (by decide), (k_139 h hb0)⟩ (xpS hb0 hS hz (va_P.sub hP [] rfl)) rfl rfl hl.1 rfl (lv_room (Nat.le_of_ble_eq_true rfl)) dX5_read_7 ⟨(Nat.le_of_ble_eq_true rfl), (Nat.le_of_ble_eq_true rfl)⟩) ?_
  refine lv_iload_n hx hb dX5_read_10 rfl (lv_at hl 4 rfl) ?_
  refine lv_aload_n hx hb dX5_read_11 rfl (lv_at hl 1 rfl) ?_
  refine va_get (D := (dC, dI)) (ci := 5) (v := .ref ro) (C := RX5) (T := TX5) (N := 5) hx hb (ly_5 h hb0) (fun _ z => z) hown hK hP 0 rfl rfl 0 (by decide) (k_110 h hb0) (fun _ z => z) rfl dX5_read_12 ?_
  refine lv_iload hx hb dX5_read_15 (lv_at hl 0 rfl) ?_
  refine xr_1 (va_runV (As := [.int (nI K)]) (rest := [.int p3]) ⟨hx, hb, hml, hown, xTs⟩ (c_cellCount h ro b0 b1 b2 b3 b4 b5 b6 b7 b8 n g (nI K) (vp_in_nI hK8 (by decide))) ⟨xB (n := 1) (k_229 h hb0) (k_2 h hb0) (k_226 h hb0) (by decide) rfl rfl rfl (by decide) (by decide), (k_227 h hb0), (k_228 h hb0)⟩ (xpV hb0 hS hz (va_P.sub hP [1, 2] rfl) (va_recv hK hP (ci := 4) (q0 := 1) rfl rfl)) rfl rfl hl.1 rfl (lv_room (Nat.le_of_ble_eq_true rfl)) dX5_read_17 ⟨(Nat.le_of_ble_eq_true rfl), (Nat.le_of_ble_eq_true rfl)⟩) ?_
  rw [nI_clamp (Nat.lt_trans hK8 (by decide))]
  exact xt_callS (As := [.int p3, .int (n K)]) (rest := []) ⟨hx, hb, hml, hown, xTs⟩ (t_needPlace h _ _ hc) ⟨xB (n := 2) (k_232 h hb0) (k_1 h hb0) (k_230 h hb0) (by decide) rfl rfl rfl (by decide) (by decide), (k_231 h hb0)⟩ (xpS hb0 hS hz (va_P.sub hP [] rfl)) rfl rfl hl.1 rfl (lv_room (Nat.le_of_ble_eq_true rfl)) dX5_read_20 ⟨(Nat.le_of_ble_eq_true rfl), (Nat.le_of_ble_eq_true rfl)⟩ (fun q ce H1 h1 h2 h3 h4 h5 => xt_out hout hlocks h1 h2 h3 (Nat.le_of_ble_eq_true rfl) (Nat.le_of_ble_eq_true rfl))
set_option maxHeartbeats 4000000 in
set_option maxRecDepth 100000 in
theorem c_write {l : Launch} {s0 : State} {a0 : Array Value} {dC : Nat → ClassId} {dI : Nat → Nat → Nat} {cA : Nat → ClassId} (h : xC l s0 a0 dC dI cA) (b gr br : Nat) (wr ca : Int32) (ro b0 b1 b2 b3 b4 b5 b6 b7 b8 : Nat) (n : Nat → Int32) (g : Nat → Nat → Int32) (K : Nat) (p1 p2 p3 p4 : Int32) (sz : Nat) (hKe : p1 &&& 7 = nI K) (hK8 : K < 8) (ht : ¬ p2 = 0) (h0 : ¬ p3 < 0) (h1 : p3 < n K) (hi : vp_in p3 39) : Met l yX5_write [Cond.code yX5_write cX5_write 6 (some .int)] ({ frames := 1, cells := 0, slots := 0, locals := 40 } : Room) (xPM s0 (dC, dI) [.ref b, .int p1, .int p2, .int p3, .int p4] [(ro, .inr (4, [.ref b0, .ref b1, .ref b2, .ref b3, .ref b4, .ref b5, .ref b6, .ref b7, .ref b8])), (b0, .inl (cA 0, 8, .inl n))] [(b, .inr (5, [.ref ro, .ref gr, .ref br, .int wr, .int ca])), (b1, .inl (cA 0, 39, .inl (r0 g))), (b2, .inl (cA 1, 39, .inr (.inl (r1 g)))), (b3, .inl (cA 2, 39, .inl (r2 g))), (b4, .inl (cA 3, 39, .inl (r3 g))), (b5, .inl (cA 4, 39, .inl (r4 g))), (b6, .inl (cA 5, 39, .inl (r5 g))), (b7, .inl (cA 6, 39, .inr (.inr (.inl (r6 g))))), (b8, .inl (cA 7, 39, .inr (.inr (.inr (.inl (r7 g))))))] sz) (xQM (dC, dI) (va_A [(b, .inr (5, [.ref ro, .ref gr, .ref br, .int wr, .int ca])), (b1, .inl (cA 0, 39, .inl (r0 g))), (b2, .inl (cA 1, 39, .inr (.inl (r1 g)))), (b3, .inl (cA 2, 39, .inl (r2 g))), (b4, .inl (cA 3, 39, .inl (r3 g))), (b5, .inl (cA 4, 39, .inl (r4 g))), (b6, .inl (cA 5, 39, .inl (r5 g))), (b7, .inl (cA 6, 39, .inr (.inr (.inl (r6 g))))), (b8, .inl (cA 7, 39, .inr (.inr (.inr (.inl (r7 g))))))] sz) (fun r w1 => r = some (.int (wr + 1)) ∧ w1 = [(b, .inr (5, [.ref ro, .ref gr, .ref br, .int (wr + 1), .int ca])), (b1, .inl (cA 0, 39, .inl (r0 (gset g K p3.toNatClampNeg p4)))), (b2, .inl (cA 1, 39, .inr (.inl (r1 (gset g K p3.toNatClampNeg p4))))), (b3, .inl (cA 2, 39, .inl (r2 (gset g K p3.toNatClampNeg p4)))), (b4, .inl (cA 3, 39, .inl (r3 (gset g K p3.toNatClampNeg p4)))), (b5, .inl (cA 4, 39, .inl (r4 (gset g K p3.toNatClampNeg p4)))), (b6, .inl (cA 5, 39, .inl (r5 (gset g K p3.toNatClampNeg p4)))), (b7, .inl (cA 6, 39, .inr (.inr (.inl (r6 (gset g K p3.toNatClampNeg p4)))))), (b8, .inl (cA 7, 39, .inr (.inr (.inr (.inl (r7 (gset g K p3.toNatClampNeg p4)))))))])) 0 0 (va_A [(b, .inr (5, [.ref ro, .ref gr, .ref br, .int wr, .int ca])), (b1, .inl (cA 0, 39, .inl (r0 g))), (b2, .inl (cA 1, 39, .inr (.inl (r1 g)))), (b3, .inl (cA 2, 39, .inl (r2 g))), (b4, .inl (cA 3, 39, .inl (r3 g))), (b5, .inl (cA 4, 39, .inl (r4 g))), (b6, .inl (cA 5, 39, .inl (r5 g))), (b7, .inl (cA 6, 39, .inr (.inr (.inl (r6 g))))), (b8, .inl (cA 7, 39, .inr (.inr (.inr (.inl (r7 g))))))] sz) := by
  refine Met.ofW (cc := cX5_write) (maxL := 6) (ret := (some .int)) (by decide) rfl ?_
  intro p e s m args below meth c s₁ B hml hv
  obtain ⟨rfl, rfl, hb0, hPr, hP, hD0⟩ := hv
  have hx := B.exec
  have hb := B.bytes
  have hr := B.returns
  have hown : s.vm.findClass RX5 = some m.cls := findClass_of_methodNamed B.named
  have hlocks := B.notSynchronized
  have hK := h.K hb0
  have hS : va_S (va_A [(b, .inr (5, [.ref ro, .ref gr, .ref br, .int wr, .int ca])), (b1, .inl (cA 0, 39, .inl (r0 g))), (b2, .inl (cA 1, 39, .inr (.inl (r1 g)))), (b3, .inl (cA 2, 39, .inl (r2 g))), (b4, .inl (cA 3, 39, .inl (r3 g))), (b5, .inl (cA 4, 39, .inl (r4 g))), (b6, .inl (cA 5, 39, .inl (r5 g))), (b7, .inl (cA 6, 39, .inr (.inr (.inl (r6 g))))), (b8, .inl (cA 7, 39, .inr (.inr (.inr (.inl (r7 g))))))] s.heap.size) s.heap s.heap [] := va_S.rf
  obtain ⟨A, hAe, hD, hA, hz, hRo, hwk, hnR⟩ := xM_start hb0 hPr hP hD0
  rw [hAe] at hS ⊢
  have hl := lv_entry ([.ref b, .int p1, .int p2, .int p3, .int p4]) (n := 6) (Nat.le_of_ble_eq_true rfl)
  rw [lg_entry_eq]
  generalize (lg_sl ([.ref b, .int p1, .int p2, .int p3, .int p4]) ++ List.replicate (6 - (lg_sl ([.ref b, .int p1, .int p2, .int p3, .int p4])).length) Slot.unset).toArray = ls at hl ⊢
  have hl : lv_has ls 6 [(0, .ref b), (1, .int p1), (2, .int p2), (3, .int p3), (4, .int p4)] := hl
  refine lv_iload_n hx hb dX5_write_0 rfl (lv_at hl 1 rfl) ?_
  refine xr_1 (va_runS (As := [.int p1]) (rest := []) ⟨hx, hb, hml, hown, xTs⟩ (c_kindOf h _) ⟨xB (n := 1) (k_137 h hb0) (k_1 h hb0) (k_135 h hb0) (by decide) rfl rfl rfl (by decide) (by decide), (k_136 h hb0)⟩ (xpS hb0 hS hz (va_P.sub (hRo _ _ hS) [] rfl)) rfl rfl hl.1 rfl (lv_room (Nat.le_of_ble_eq_true rfl)) dX5_write_1 ⟨(Nat.le_of_ble_eq_true rfl), (Nat.le_of_ble_eq_true rfl)⟩) ?_
  rw [hKe]
  refine lv_istore (lv' := [(5, .int (nI K)), (0, .ref b), (1, .int p1), (2, .int p2), (3, .int p3), (4, .int p4)]) hx hb dX5_write_4 hl (by decide) rfl (fun ls hl => ?_)
  refine lv_iload_n hx hb dX5_write_6 rfl (lv_at hl 3 rfl) ?_
  refine xr_0 (va_runS (As := [.int p2]) (rest := []) ⟨hx, hb, hml, hown, xTs⟩ (c_needThere h _ ht) ⟨xB (n := 1) (k_140 h hb0) (k_1 h hb0) (k_138 h hb0) (by decide) rfl rfl rfl (by decide) (by decide), (k_139 h hb0)⟩ (xpS hb0 hS hz (va_P.sub (hRo _ _ hS) [] rfl)) rfl rfl hl.1 rfl (lv_room (Nat.le_of_ble_eq_true rfl)) dX5_write_7 ⟨(Nat.le_of_ble_eq_true rfl), (Nat.le_of_ble_eq_true rfl)⟩) ?_
  refine lv_iload_n hx hb dX5_write_10 rfl (lv_at hl 4 rfl) ?_
  refine lv_aload_n hx hb dX5_write_11 rfl (lv_at hl 1 rfl) ?_
  refine va_get (D := (dC, dI)) (ci := 5) (v := .ref ro) (C := RX5) (T := TX5) (N := 5) hx hb (ly_5 h hb0) (fun _ z => z) hown hK hP 0 rfl rfl 0 (by decide) (k_110 h hb0) (fun _ z => z) rfl dX5_write_12 ?_
  refine lv_iload hx hb dX5_write_15 (lv_at hl 0 rfl) ?_
  refine xr_1 (va_runV (As := [.int (nI K)]) (rest := [.int p3]) ⟨hx, hb, hml, hown, xTs⟩ (c_cellCount h ro b0 b1 b2 b3 b4 b5 b6 b7 b8 n g (nI K) (vp_in_nI hK8 (by decide))) ⟨xB (n := 1) (k_229 h hb0) (k_2 h hb0) (k_226 h hb0) (by decide) rfl rfl rfl (by decide) (by decide), (k_227 h hb0), (k_228 h hb0)⟩ (xpV hb0 hS hz (va_P.sub (hRo _ _ hS) [0, 1] rfl) (va_recv hK (hRo _ _ hS) (ci := 4) (q0 := 0) rfl rfl)) rfl rfl hl.1 rfl (lv_room (Nat.le_of_ble_eq_true rfl)) dX5_write_17 ⟨(Nat.le_of_ble_eq_true rfl), (Nat.le_of_ble_eq_true rfl)⟩) ?_
  rw [nI_clamp (Nat.lt_trans hK8 (by decide))]
  refine xr_0 (va_runS (As := [.int p3, .int (n K)]) (rest := []) ⟨hx, hb, hml, hown, xTs⟩ (c_needPlace h _ _ h0 h1) ⟨xB (n := 2) (k_232 h hb0) (k_1 h hb0) (k_230 h hb0) (by decide) rfl rfl rfl (by decide) (by decide), (k_231 h hb0)⟩ (xpS hb0 hS hz (va_P.sub (hRo _ _ hS) [] rfl)) rfl rfl hl.1 rfl (lv_room (Nat.le_of_ble_eq_true rfl)) dX5_write_20 ⟨(Nat.le_of_ble_eq_true rfl), (Nat.le_of_ble_eq_true rfl)⟩) ?_
  refine lv_aload_n hx hb dX5_write_23 rfl (lv_at hl 1 rfl) ?_
  refine va_get (D := (dC, dI)) (ci := 5) (v := .ref ro) (C := RX5) (T := TX5) (N := 5) hx hb (ly_5 h hb0) (fun _ z => z) hown hK hP 0 rfl rfl 0 (by decide) (k_110 h hb0) (fun _ z => z) rfl dX5_write_24 ?_
  refine lv_iload hx hb dX5_write_27 (lv_at hl 0 rfl) ?_
  refine lv_iload_n hx hb dX5_write_29 rfl (lv_at hl 4 rfl) ?_
  refine lv_iload hx hb dX5_write_30 (lv_at hl 5 rfl) ?_
  refine xm_of (wc := [(b1, .inl (cA 0, 39, .inl (r0 g))), (b2, .inl (cA 1, 39, .inr (.inl (r1 g)))), (b3, .inl (cA 2, 39, .inl (r2 g))), (b4, .inl (cA 3, 39, .inl (r3 g))), (b5, .inl (cA 4, 39, .inl (r4 g))), (b6, .inl (cA 5, 39, .inl (r5 g))), (b7, .inl (cA 6, 39, .inr (.inr (.inl (r6 g))))), (b8, .inl (cA 7, 39, .inr (.inr (.inr (.inl (r7 g))))))]) (wo := [(b, .inr (5, [.ref ro, .ref gr, .ref br, .int wr, .int ca]))]) (va_runV (As := [.int (nI K), .int p3, .int p4]) (rest := []) ⟨hx, hb, hml, hown, xTs⟩ (c_store h ro b0 b1 b2 b3 b4 b5 b6 b7 b8 g K p3 p4 _ hK8 hi) ⟨xB (n := 3) (k_268 h hb0) (k_2 h hb0) (k_265 h hb0) (by decide) rfl rfl rfl (by decide) (by decide), (k_266 h hb0), (k_267 h hb0)⟩ (xpMV (wr := [(ro, .inr (4, [.ref b0, .ref b1, .ref b2, .ref b3, .ref b4, .ref b5, .ref b6, .ref b7, .ref b8]))]) (wc := [(b1, .inl (cA 0, 39, .inl (r0 g))), (b2, .inl (cA 1, 39, .inr (.inl (r1 g)))), (b3, .inl (cA 2, 39, .inl (r2 g))), (b4, .inl (cA 3, 39, .inl (r3 g))), (b5, .inl (cA 4, 39, .inl (r4 g))), (b6, .inl (cA 5, 39, .inl (r5 g))), (b7, .inl (cA 6, 39, .inr (.inr (.inl (r6 g))))), (b8, .inl (cA 7, 39, .inr (.inr (.inr (.inl (r7 g))))))]) hb0 hS hz (va_P.sub (hRo _ _ hS) [0] rfl) (va_P.sub hP [1, 2, 3, 4, 5, 6, 7, 8] rfl) (va_D.sub (xDD (xDl hD0) hD hz hnR) [0, 3, 4, 5, 6, 7, 8, 9, 10] rfl rfl) (va_recv hK (hRo _ _ hS) (ci := 4) (q0 := 0) rfl rfl)) rfl rfl hl.1 rfl (lv_room (Nat.le_of_ble_eq_true rfl)) dX5_write_32 ⟨(Nat.le_of_ble_eq_true rfl), (Nat.le_of_ble_eq_true rfl)⟩) hP hD hS hA [1, 2, 3, 4, 5, 6, 7, 8] [0] rfl rfl rfl (by decide) (fun r w1 H locs hΦ hP hD hS => ?_)
  obtain ⟨rfl, rfl⟩ := hΦ
  have hP : va_P (dC, dI) vwCl [(b, .inr (5, [.ref ro, .ref gr, .ref br, .int wr, .int ca])), (b1, .inl (cA 0, 39, .inl (r0 (gset g K p3.toNatClampNeg p4)))), (b2, .inl (cA 1, 39, .inr (.inl (r1 (gset g K p3.toNatClampNeg p4))))), (b3, .inl (cA 2, 39, .inl (r2 (gset g K p3.toNatClampNeg p4)))), (b4, .inl (cA 3, 39, .inl (r3 (gset g K p3.toNatClampNeg p4)))), (b5, .inl (cA 4, 39, .inl (r4 (gset g K p3.toNatClampNeg p4)))), (b6, .inl (cA 5, 39, .inl (r5 (gset g K p3.toNatClampNeg p4)))), (b7, .inl (cA 6, 39, .inr (.inr (.inl (r6 (gset g K p3.toNatClampNeg p4)))))), (b8, .inl (cA 7, 39, .inr (.inr (.inr (.inl (r7 (gset g K p3.toNatClampNeg p4)))))))] H := hP
  have hD : va_D A [(b, .inr (5, [.ref ro, .ref gr, .ref br, .int wr, .int ca])), (b1, .inl (cA 0, 39, .inl (r0 (gset g K p3.toNatClampNeg p4)))), (b2, .inl (cA 1, 39, .inr (.inl (r1 (gset g K p3.toNatClampNeg p4))))), (b3, .inl (cA 2, 39, .inl (r2 (gset g K p3.toNatClampNeg p4)))), (b4, .inl (cA 3, 39, .inl (r3 (gset g K p3.toNatClampNeg p4)))), (b5, .inl (cA 4, 39, .inl (r4 (gset g K p3.toNatClampNeg p4)))), (b6, .inl (cA 5, 39, .inl (r5 (gset g K p3.toNatClampNeg p4)))), (b7, .inl (cA 6, 39, .inr (.inr (.inl (r6 (gset g K p3.toNatClampNeg p4)))))), (b8, .inl (cA 7, 39, .inr (.inr (.inr (.inl (r7 (gset g K p3.toNatClampNeg p4)))))))] := hD
  refine lv_aload_n hx hb dX5_write_35 rfl (lv_at hl 1 rfl) ?_
  refine lv_dup hx hb dX5_write_36 rfl ?_
  refine va_get (D := (dC, dI)) (ci := 5) (v := .int wr) (C := RX5) (T := TX5) (N := 5) hx hb (ly_5 h hb0) (fun _ z => z) hown hK hP 0 rfl rfl 3 (by decide) (k_113 h hb0) (fun _ z => z) rfl dX5_write_37 ?_
  refine lv_iconst (v := 1) hx hb dX5_write_40 (by decide) ?_
  refine lv_iadd hx hb dX5_write_41 ?_
  refine va_put (D := (dC, dI)) (ci := 5) (v := .int (wr + 1)) (ty := .int) (C := RX5) (T := TX5) (N := 5) hx hb (ly_5 h hb0) (fun _ z => z) tyX5 tyX5_ok nmX5 hown hK hP hD hS 0 rfl rfl 3 (by decide) (k_113 h hb0) (fun _ z => z) rfl (by decide +kernel) rfl rfl (Nat.le_of_ble_eq_true rfl) dX5_write_42 (fun H locs hP hD hS => ?_)
  have hP : va_P (dC, dI) vwCl [(b, .inr (5, [.ref ro, .ref gr, .ref br, .int (wr + 1), .int ca])), (b1, .inl (cA 0, 39, .inl (r0 (gset g K p3.toNatClampNeg p4)))), (b2, .inl (cA 1, 39, .inr (.inl (r1 (gset g K p3.toNatClampNeg p4))))), (b3, .inl (cA 2, 39, .inl (r2 (gset g K p3.toNatClampNeg p4)))), (b4, .inl (cA 3, 39, .inl (r3 (gset g K p3.toNatClampNeg p4)))), (b5, .inl (cA 4, 39, .inl (r4 (gset g K p3.toNatClampNeg p4)))), (b6, .inl (cA 5, 39, .inl (r5 (gset g K p3.toNatClampNeg p4)))), (b7, .inl (cA 6, 39, .inr (.inr (.inl (r6 (gset g K p3.toNatClampNeg p4)))))), (b8, .inl (cA 7, 39, .inr (.inr (.inr (.inl (r7 (gset g K p3.toNatClampNeg p4)))))))] H := hP
  have hD : va_D A [(b, .inr (5, [.ref ro, .ref gr, .ref br, .int (wr + 1), .int ca])), (b1, .inl (cA 0, 39, .inl (r0 (gset g K p3.toNatClampNeg p4)))), (b2, .inl (cA 1, 39, .inr (.inl (r1 (gset g K p3.toNatClampNeg p4))))), (b3, .inl (cA 2, 39, .inl (r2 (gset g K p3.toNatClampNeg p4)))), (b4, .inl (cA 3, 39, .inl (r3 (gset g K p3.toNatClampNeg p4)))), (b5, .inl (cA 4, 39, .inl (r4 (gset g K p3.toNatClampNeg p4)))), (b6, .inl (cA 5, 39, .inl (r5 (gset g K p3.toNatClampNeg p4)))), (b7, .inl (cA 6, 39, .inr (.inr (.inl (r6 (gset g K p3.toNatClampNeg p4)))))), (b8, .inl (cA 7, 39, .inr (.inr (.inr (.inl (r7 (gset g K p3.toNatClampNeg p4)))))))] := hD
  refine lv_aload_n hx hb dX5_write_45 rfl (lv_at hl 1 rfl) ?_
  refine va_get (D := (dC, dI)) (ci := 5) (v := .int (wr + 1)) (C := RX5) (T := TX5) (N := 5) hx hb (ly_5 h hb0) (fun _ z => z) hown hK hP 0 rfl rfl 3 (by decide) (k_113 h hb0) (fun _ z => z) rfl dX5_write_46 ?_
  exact W.iret hx hb hr (fun t ht _ => ⟨(some (.int (wr + 1))), _, rfl, ⟨rfl, rfl⟩, by rw [ht]; exact hP, hD, hS.F ht⟩) (fun q z => hS.2.2 q z) dX5_write_49
set_option maxHeartbeats 4000000 in
set_option maxRecDepth 100000 in
theorem t_write_N {l : Launch} {s0 : State} {a0 : Array Value} {dC : Nat → ClassId} {dI : Nat → Nat → Nat} {cA : Nat → ClassId} (h : xC l s0 a0 dC dI cA) (b gr br : Nat) (wr ca : Int32) (ro b0 b1 b2 b3 b4 b5 b6 b7 b8 : Nat) (n : Nat → Int32) (g : Nat → Nat → Int32) (K : Nat) (p1 p2 p3 p4 : Int32) (hKe : p1 &&& 7 = nI K) (hK8 : K < 8) (ht : p2 = 0) : xt_Met l yX5_write [Cond.code yX5_write cX5_write 6 (some .int)] ({ frames := 8, cells := 1, slots := 8, locals := 140 } : Room) (xP s0 (dC, dI) [.ref b, .int p1, .int p2, .int p3, .int p4] [(b, .inr (5, [.ref ro, .ref gr, .ref br, .int wr, .int ca])), (ro, .inr (4, [.ref b0, .ref b1, .ref b2, .ref b3, .ref b4, .ref b5, .ref b6, .ref b7, .ref b8])), (b0, .inl (cA 0, 8, .inl n))]) "java/lang/NullPointerException" 1 8 := by
  refine xt_ofW (cc := cX5_write) (maxL := 6) (ret := (some .int)) (by decide) rfl ?_
  intro p e s m args below meth c s₁ B hml hout hv
  obtain ⟨rfl, hb0, hP⟩ := hv
  have hx := B.exec
  have hb := B.bytes
  have hr := B.returns
  have hown : s.vm.findClass RX5 = some m.cls := findClass_of_methodNamed B.named
  have hlocks := B.notSynchronized
  have hK := h.K hb0
  have hS : va_S (fun _ : Nat => False) s.heap s.heap [] := va_S.rf
  have hz : ∀ q : Nat, (fun _ : Nat => False) q → s0.heap.size ≤ q := fun _ z => z.elim
  have hl := lv_entry ([.ref b, .int p1, .int p2, .int p3, .int p4]) (n := 6) (Nat.le_of_ble_eq_true rfl)
  rw [lg_entry_eq]
  generalize (lg_sl ([.ref b, .int p1, .int p2, .int p3, .int p4]) ++ List.replicate (6 - (lg_sl ([.ref b, .int p1, .int p2, .int p3, .int p4])).length) Slot.unset).toArray = ls at hl ⊢
  have hl : lv_has ls 6 [(0, .ref b), (1, .int p1), (2, .int p2), (3, .int p3), (4, .int p4)] := hl
  refine lv_iload_n hx hb dX5_write_0 rfl (lv_at hl 1 rfl) ?_
  refine xr_1 (va_runS (As := [.int p1]) (rest := []) ⟨hx, hb, hml, hown, xTs⟩ (c_kindOf h _) ⟨xB (n := 1) (k_137 h hb0) (k_1 h hb0) (k_135 h hb0) (by decide) rfl rfl rfl (by decide) (by decide), (k_136 h hb0)⟩ (xpS hb0 hS hz (va_P.sub hP [] rfl)) rfl rfl hl.1 rfl (lv_room (Nat.le_of_ble_eq_true rfl)) dX5_write_1 ⟨(Nat.le_of_ble_eq_true rfl), (Nat.le_of_ble_eq_true rfl)⟩) ?_
  rw [hKe]
  refine lv_istore (lv' := [(5, .int (nI K)), (0, .ref b), (1, .int p1), (2, .int p2), (3, .int p3), (4, .int p4)]) hx hb dX5_write_4 hl (by decide) rfl (fun ls hl => ?_)
  refine lv_iload_n hx hb dX5_write_6 rfl (lv_at hl 3 rfl) ?_
  exact xt_callS (As := [.int p2]) (rest := []) ⟨hx, hb, hml, hown, xTs⟩ (t_needThere h _ ht) ⟨xB (n := 1) (k_140 h hb0) (k_1 h hb0) (k_138 h hb0) (by decide) rfl rfl rfl (by decide) (by decide), (k_139 h hb0)⟩ (xpS hb0 hS hz (va_P.sub hP [] rfl)) rfl rfl hl.1 rfl (lv_room (Nat.le_of_ble_eq_true rfl)) dX5_write_7 ⟨(Nat.le_of_ble_eq_true rfl), (Nat.le_of_ble_eq_true rfl)⟩ (fun q ce H1 h1 h2 h3 h4 h5 => xt_out hout hlocks h1 h2 h3 (Nat.le_of_ble_eq_true rfl) (Nat.le_of_ble_eq_true rfl))
set_option maxHeartbeats 4000000 in
set_option maxRecDepth 100000 in
theorem t_write_A {l : Launch} {s0 : State} {a0 : Array Value} {dC : Nat → ClassId} {dI : Nat → Nat → Nat} {cA : Nat → ClassId} (h : xC l s0 a0 dC dI cA) (b gr br : Nat) (wr ca : Int32) (ro b0 b1 b2 b3 b4 b5 b6 b7 b8 : Nat) (n : Nat → Int32) (g : Nat → Nat → Int32) (K : Nat) (p1 p2 p3 p4 : Int32) (hKe : p1 &&& 7 = nI K) (hK8 : K < 8) (ht : ¬ p2 = 0) (hc : p3 < 0 ∨ ¬ p3 < n K) : xt_Met l yX5_write [Cond.code yX5_write cX5_write 6 (some .int)] ({ frames := 8, cells := 1, slots := 8, locals := 140 } : Room) (xP s0 (dC, dI) [.ref b, .int p1, .int p2, .int p3, .int p4] [(b, .inr (5, [.ref ro, .ref gr, .ref br, .int wr, .int ca])), (ro, .inr (4, [.ref b0, .ref b1, .ref b2, .ref b3, .ref b4, .ref b5, .ref b6, .ref b7, .ref b8])), (b0, .inl (cA 0, 8, .inl n))]) "java/lang/ArrayIndexOutOfBoundsException" 1 8 := by
  refine xt_ofW (cc := cX5_write) (maxL := 6) (ret := (some .int)) (by decide) rfl ?_
  intro p e s m args below meth c s₁ B hml hout hv
  obtain ⟨rfl, hb0, hP⟩ := hv
  have hx := B.exec
  have hb := B.bytes
  have hr := B.returns
  have hown : s.vm.findClass RX5 = some m.cls := findClass_of_methodNamed B.named
  have hlocks := B.notSynchronized
  have hK := h.K hb0
  have hS : va_S (fun _ : Nat => False) s.heap s.heap [] := va_S.rf
  have hz : ∀ q : Nat, (fun _ : Nat => False) q → s0.heap.size ≤ q := fun _ z => z.elim
  have hl := lv_entry ([.ref b, .int p1, .int p2, .int p3, .int p4]) (n := 6) (Nat.le_of_ble_eq_true rfl)
  rw [lg_entry_eq]
  generalize (lg_sl ([.ref b, .int p1, .int p2, .int p3, .int p4]) ++ List.replicate (6 - (lg_sl ([.ref b, .int p1, .int p2, .int p3, .int p4])).length) Slot.unset).toArray = ls at hl ⊢
  have hl : lv_has ls 6 [(0, .ref b), (1, .int p1), (2, .int p2), (3, .int p3), (4, .int p4)] := hl
  refine lv_iload_n hx hb dX5_write_0 rfl (lv_at hl 1 rfl) ?_
  refine xr_1 (va_runS (As := [.int p1]) (rest := []) ⟨hx, hb, hml, hown, xTs⟩ (c_kindOf h _) ⟨xB (n := 1) (k_137 h hb0) (k_1 h hb0) (k_135 h hb0) (by decide) rfl rfl rfl (by decide) (by decide), (k_136 h hb0)⟩ (xpS hb0 hS hz (va_P.sub hP [] rfl)) rfl rfl hl.1 rfl (lv_room (Nat.le_of_ble_eq_true rfl)) dX5_write_1 ⟨(Nat.le_of_ble_eq_true rfl), (Nat.le_of_ble_eq_true rfl)⟩) ?_
  rw [hKe]
  refine lv_istore (lv' := [(5, .int (nI K)), (0, .ref b), (1, .int p1), (2, .int p2), (3, .int p3), (4, .int p4)]) hx hb dX5_write_4 hl (by decide) rfl (fun ls hl => ?_)
  refine lv_iload_n hx hb dX5_write_6 rfl (lv_at hl 3 rfl) ?_
  refine xr_0 (va_runS (As := [.int p2]) (rest := []) ⟨hx, hb, hml, hown, xTs⟩ (c_needThere h _ ht) ⟨xB (n := 1) (k_140 h hb0) (k_1 h hb0) (k_138 h hb0) (by decide) rfl rfl rfl (by decide) (by decide), (k_139 h hb0)⟩ (xpS hb0 hS hz (va_P.sub hP [] rfl)) rfl rfl hl.1 rfl (lv_room (Nat.le_of_ble_eq_true rfl)) dX5_write_7 ⟨(Nat.le_of_ble_eq_true rfl), (Nat.le_of_ble_eq_true rfl)⟩) ?_
  refine lv_iload_n hx hb dX5_write_10 rfl (lv_at hl 4 rfl) ?_
  refine lv_aload_n hx hb dX5_write_11 rfl (lv_at hl 1 rfl) ?_
  refine va_get (D := (dC, dI)) (ci := 5) (v := .ref ro) (C := RX5) (T := TX5) (N := 5) hx hb (ly_5 h hb0) (fun _ z => z) hown hK hP 0 rfl rfl 0 (by decide) (k_110 h hb0) (fun _ z => z) rfl dX5_write_12 ?_
  refine lv_iload hx hb dX5_write_15 (lv_at hl 0 rfl) ?_
  refine xr_1 (va_runV (As := [.int (nI K)]) (rest := [.int p3]) ⟨hx, hb, hml, hown, xTs⟩ (c_cellCount h ro b0 b1 b2 b3 b4 b5 b6 b7 b8 n g (nI K) (vp_in_nI hK8 (by decide))) ⟨xB (n := 1) (k_229 h hb0) (k_2 h hb0) (k_226 h hb0) (by decide) rfl rfl rfl (by decide) (by decide), (k_227 h hb0), (k_228 h hb0)⟩ (xpV hb0 hS hz (va_P.sub hP [1, 2] rfl) (va_recv hK hP (ci := 4) (q0 := 1) rfl rfl)) rfl rfl hl.1 rfl (lv_room (Nat.le_of_ble_eq_true rfl)) dX5_write_17 ⟨(Nat.le_of_ble_eq_true rfl), (Nat.le_of_ble_eq_true rfl)⟩) ?_
  rw [nI_clamp (Nat.lt_trans hK8 (by decide))]
  exact xt_callS (As := [.int p3, .int (n K)]) (rest := []) ⟨hx, hb, hml, hown, xTs⟩ (t_needPlace h _ _ hc) ⟨xB (n := 2) (k_232 h hb0) (k_1 h hb0) (k_230 h hb0) (by decide) rfl rfl rfl (by decide) (by decide), (k_231 h hb0)⟩ (xpS hb0 hS hz (va_P.sub hP [] rfl)) rfl rfl hl.1 rfl (lv_room (Nat.le_of_ble_eq_true rfl)) dX5_write_20 ⟨(Nat.le_of_ble_eq_true rfl), (Nat.le_of_ble_eq_true rfl)⟩ (fun q ce H1 h1 h2 h3 h4 h5 => xt_out hout hlocks h1 h2 h3 (Nat.le_of_ble_eq_true rfl) (Nat.le_of_ble_eq_true rfl))
set_option maxHeartbeats 4000000 in
set_option maxRecDepth 100000 in
theorem c_length {l : Launch} {s0 : State} {a0 : Array Value} {dC : Nat → ClassId} {dI : Nat → Nat → Nat} {cA : Nat → ClassId} (h : xC l s0 a0 dC dI cA) (b gr br : Nat) (wr ca : Int32) (ro b0 b1 b2 b3 b4 b5 b6 b7 b8 : Nat) (n : Nat → Int32) (g : Nat → Nat → Int32) (K : Nat) (p1 p2 : Int32) (hKe : p1 &&& 7 = nI K) (hK8 : K < 8) (ht : ¬ p2 = 0) : Met l yX5_length [Cond.code yX5_length cX5_length 3 (some .int)] ({ frames := 1, cells := 0, slots := 0, locals := 40 } : Room) (xP s0 (dC, dI) [.ref b, .int p1, .int p2] [(b, .inr (5, [.ref ro, .ref gr, .ref br, .int wr, .int ca])), (ro, .inr (4, [.ref b0, .ref b1, .ref b2, .ref b3, .ref b4, .ref b5, .ref b6, .ref b7, .ref b8])), (b0, .inl (cA 0, 8, .inl n))]) (xR (some (.int (n K)))) 0 0 (fun _ => False) := by
  refine Met.ofW (cc := cX5_length) (maxL := 3) (ret := (some .int)) (by decide) rfl ?_
  intro p e s m args below meth c s₁ B hml hv
  obtain ⟨rfl, hb0, hP⟩ := hv
  have hx := B.exec
  have hb := B.bytes
  have hr := B.returns
  have hown : s.vm.findClass RX5 = some m.cls := findClass_of_methodNamed B.named
  have hlocks := B.notSynchronized
  have hK := h.K hb0
  have hS : va_S (fun _ : Nat => False) s.heap s.heap [] := va_S.rf
  have hz : ∀ q : Nat, (fun _ : Nat => False) q → s0.heap.size ≤ q := fun _ z => z.elim
  have hl := lv_entry ([.ref b, .int p1, .int p2]) (n := 3) (Nat.le_of_ble_eq_true rfl)
  rw [lg_entry_eq]
  generalize (lg_sl ([.ref b, .int p1, .int p2]) ++ List.replicate (3 - (lg_sl ([.ref b, .int p1, .int p2])).length) Slot.unset).toArray = ls at hl ⊢
  have hl : lv_has ls 3 [(0, .ref b), (1, .int p1), (2, .int p2)] := hl
  refine lv_iload_n hx hb dX5_length_0 rfl (lv_at hl 2 rfl) ?_
  refine xr_0 (va_runS (As := [.int p2]) (rest := []) ⟨hx, hb, hml, hown, xTs⟩ (c_needThere h _ ht) ⟨xB (n := 1) (k_140 h hb0) (k_1 h hb0) (k_138 h hb0) (by decide) rfl rfl rfl (by decide) (by decide), (k_139 h hb0)⟩ (xpS hb0 hS hz (va_P.sub hP [] rfl)) rfl rfl hl.1 rfl (lv_room (Nat.le_of_ble_eq_true rfl)) dX5_length_1 ⟨(Nat.le_of_ble_eq_true rfl), (Nat.le_of_ble_eq_true rfl)⟩) ?_
  refine lv_aload_n hx hb dX5_length_4 rfl (lv_at hl 0 rfl) ?_
  refine va_get (D := (dC, dI)) (ci := 5) (v := .ref ro) (C := RX5) (T := TX5) (N := 5) hx hb (ly_5 h hb0) (fun _ z => z) hown hK hP 0 rfl rfl 0 (by decide) (k_110 h hb0) (fun _ z => z) rfl dX5_length_5 ?_
  refine lv_iload_n hx hb dX5_length_8 rfl (lv_at hl 1 rfl) ?_
  refine xr_1 (va_runS (As := [.int p1]) (rest := [.ref ro]) ⟨hx, hb, hml, hown, xTs⟩ (c_kindOf h _) ⟨xB (n := 1) (k_137 h hb0) (k_1 h hb0) (k_135 h hb0) (by decide) rfl rfl rfl (by decide) (by decide), (k_136 h hb0)⟩ (xpS hb0 hS hz (va_P.sub hP [] rfl)) rfl rfl hl.1 rfl (lv_room (Nat.le_of_ble_eq_true rfl)) dX5_length_9 ⟨(Nat.le_of_ble_eq_true rfl), (Nat.le_of_ble_eq_true rfl)⟩) ?_
  rw [hKe]
  refine xr_1 (va_runV (As := [.int (nI K)]) (rest := []) ⟨hx, hb, hml, hown, xTs⟩ (c_cellCount h ro b0 b1 b2 b3 b4 b5 b6 b7 b8 n g (nI K) (vp_in_nI hK8 (by decide))) ⟨xB (n := 1) (k_229 h hb0) (k_2 h hb0) (k_226 h hb0) (by decide) rfl rfl rfl (by decide) (by decide), (k_227 h hb0), (k_228 h hb0)⟩ (xpV hb0 hS hz (va_P.sub hP [1, 2] rfl) (va_recv hK hP (ci := 4) (q0 := 1) rfl rfl)) rfl rfl hl.1 rfl (lv_room (Nat.le_of_ble_eq_true rfl)) dX5_length_12 ⟨(Nat.le_of_ble_eq_true rfl), (Nat.le_of_ble_eq_true rfl)⟩) ?_
  rw [nI_clamp (Nat.lt_trans hK8 (by decide))]
  exact W.iret hx hb hr (fun t ht _ => ⟨rfl, ht⟩) (fun q z => nomatch z) dX5_length_15
set_option maxHeartbeats 4000000 in
set_option maxRecDepth 100000 in
theorem t_length_N {l : Launch} {s0 : State} {a0 : Array Value} {dC : Nat → ClassId} {dI : Nat → Nat → Nat} {cA : Nat → ClassId} (h : xC l s0 a0 dC dI cA) (b gr br : Nat) (wr ca : Int32) (ro b0 b1 b2 b3 b4 b5 b6 b7 b8 : Nat) (n : Nat → Int32) (g : Nat → Nat → Int32) (K : Nat) (p1 p2 : Int32) (ht : p2 = 0) : xt_Met l yX5_length [Cond.code yX5_length cX5_length 3 (some .int)] ({ frames := 8, cells := 1, slots := 8, locals := 140 } : Room) (xP s0 (dC, dI) [.ref b, .int p1, .int p2] [(b, .inr (5, [.ref ro, .ref gr, .ref br, .int wr, .int ca])), (ro, .inr (4, [.ref b0, .ref b1, .ref b2, .ref b3, .ref b4, .ref b5, .ref b6, .ref b7, .ref b8])), (b0, .inl (cA 0, 8, .inl n))]) "java/lang/NullPointerException" 1 8 := by
  refine xt_ofW (cc := cX5_length) (maxL := 3) (ret := (some .int)) (by decide) rfl ?_
  intro p e s m args below meth c s₁ B hml hout hv
  obtain ⟨rfl, hb0, hP⟩ := hv
  have hx := B.exec
  have hb := B.bytes
  have hr := B.returns
  have hown : s.vm.findClass RX5 = some m.cls := findClass_of_methodNamed B.named
  have hlocks := B.notSynchronized
  have hK := h.K hb0
  have hS : va_S (fun _ : Nat => False) s.heap s.heap [] := va_S.rf
  have hz : ∀ q : Nat, (fun _ : Nat => False) q → s0.heap.size ≤ q := fun _ z => z.elim
  have hl := lv_entry ([.ref b, .int p1, .int p2]) (n := 3) (Nat.le_of_ble_eq_true rfl)
  rw [lg_entry_eq]
  generalize (lg_sl ([.ref b, .int p1, .int p2]) ++ List.replicate (3 - (lg_sl ([.ref b, .int p1, .int p2])).length) Slot.unset).toArray = ls at hl ⊢
  have hl : lv_has ls 3 [(0, .ref b), (1, .int p1), (2, .int p2)] := hl
  refine lv_iload_n hx hb dX5_length_0 rfl (lv_at hl 2 rfl) ?_
  exact xt_callS (As := [.int p2]) (rest := []) ⟨hx, hb, hml, hown, xTs⟩ (t_needThere h _ ht) ⟨xB (n := 1) (k_140 h hb0) (k_1 h hb0) (k_138 h hb0) (by decide) rfl rfl rfl (by decide) (by decide), (k_139 h hb0)⟩ (xpS hb0 hS hz (va_P.sub hP [] rfl)) rfl rfl hl.1 rfl (lv_room (Nat.le_of_ble_eq_true rfl)) dX5_length_1 ⟨(Nat.le_of_ble_eq_true rfl), (Nat.le_of_ble_eq_true rfl)⟩ (fun q ce H1 h1 h2 h3 h4 h5 => xt_out hout hlocks h1 h2 h3 (Nat.le_of_ble_eq_true rfl) (Nat.le_of_ble_eq_true rfl))
set_option maxHeartbeats 4000000 in
set_option maxRecDepth 100000 in
theorem c_make {l : Launch} {s0 : State} {a0 : Array Value} {dC : Nat → ClassId} {dI : Nat → Nat → Nat} {cA : Nat → ClassId} (h : xC l s0 a0 dC dI cA) (b gr br : Nat) (wr ca : Int32) (ro b0 b1 b2 b3 b4 b5 b6 b7 b8 : Nat) (n : Nat → Int32) (g : Nat → Nat → Int32) (K N : Nat) (p1 p2 : Int32) (sz : Nat) (hKe : p1 &&& 7 = nI K) (hK8 : K < 8) (hN : p2 - p2 / 40 * 40 = nI N) (hN4 : N < 40) : Met l yX5_make [Cond.code yX5_make cX5_make 4 (some .int)] ({ frames := 2, cells := 0, slots := 0, locals := 80 } : Room) (xPM s0 (dC, dI) [.ref b, .int p1, .int p2] [(b, .inr (5, [.ref ro, .ref gr, .ref br, .int wr, .int ca])), (ro, .inr (4, [.ref b0, .ref b1, .ref b2, .ref b3, .ref b4, .ref b5, .ref b6, .ref b7, .ref b8]))] [(b0, .inl (cA 0, 8, .inl n)), (b1, .inl (cA 0, 39, .inl (r0 g))), (b2, .inl (cA 1, 39, .inr (.inl (r1 g)))), (b3, .inl (cA 2, 39, .inl (r2 g))), (b4, .inl (cA 3, 39, .inl (r3 g))), (b5, .inl (cA 4, 39, .inl (r4 g))), (b6, .inl (cA 5, 39, .inl (r5 g))), (b7, .inl (cA 6, 39, .inr (.inr (.inl (r6 g))))), (b8, .inl (cA 7, 39, .inr (.inr (.inr (.inl (r7 g))))))] sz) (xQM (dC, dI) (va_A [(b0, .inl (cA 0, 8, .inl n)), (b1, .inl (cA 0, 39, .inl (r0 g))), (b2, .inl (cA 1, 39, .inr (.inl (r1 g)))), (b3, .inl (cA 2, 39, .inl (r2 g))), (b4, .inl (cA 3, 39, .inl (r3 g))), (b5, .inl (cA 4, 39, .inl (r4 g))), (b6, .inl (cA 5, 39, .inl (r5 g))), (b7, .inl (cA 6, 39, .inr (.inr (.inl (r6 g))))), (b8, .inl (cA 7, 39, .inr (.inr (.inr (.inl (r7 g))))))] sz) (fun r w1 => r = some (.int (nI N)) ∧ w1 = [(b0, .inl (cA 0, 8, .inl (upd n K (nI N)))), (b1, .inl (cA 0, 39, .inl (r0 (gz g K N)))), (b2, .inl (cA 1, 39, .inr (.inl (r1 (gz g K N))))), (b3, .inl (cA 2, 39, .inl (r2 (gz g K N)))), (b4, .inl (cA 3, 39, .inl (r3 (gz g K N)))), (b5, .inl (cA 4, 39, .inl (r4 (gz g K N)))), (b6, .inl (cA 5, 39, .inl (r5 (gz g K N)))), (b7, .inl (cA 6, 39, .inr (.inr (.inl (r6 (gz g K N)))))), (b8, .inl (cA 7, 39, .inr (.inr (.inr (.inl (r7 (gz g K N)))))))])) 0 0 (va_A [(b0, .inl (cA 0, 8, .inl n)), (b1, .inl (cA 0, 39, .inl (r0 g))), (b2, .inl (cA 1, 39, .inr (.inl (r1 g)))), (b3, .inl (cA 2, 39, .inl (r2 g))), (b4, .inl (cA 3, 39, .inl (r3 g))), (b5, .inl (cA 4, 39, .inl (r4 g))), (b6, .inl (cA 5, 39, .inl (r5 g))), (b7, .inl (cA 6, 39, .inr (.inr (.inl (r6 g))))), (b8, .inl (cA 7, 39, .inr (.inr (.inr (.inl (r7 g))))))] sz) := by
  refine Met.ofW (cc := cX5_make) (maxL := 4) (ret := (some .int)) (by decide) rfl ?_
  intro p e s m args below meth c s₁ B hml hv
  obtain ⟨rfl, rfl, hb0, hPr, hP, hD0⟩ := hv
  have hx := B.exec
  have hb := B.bytes
  have hr := B.returns
  have hown : s.vm.findClass RX5 = some m.cls := findClass_of_methodNamed B.named
  have hlocks := B.notSynchronized
  have hK := h.K hb0
  have hS : va_S (va_A [(b0, .inl (cA 0, 8, .inl n)), (b1, .inl (cA 0, 39, .inl (r0 g))), (b2, .inl (cA 1, 39, .inr (.inl (r1 g)))), (b3, .inl (cA 2, 39, .inl (r2 g))), (b4, .inl (cA 3, 39, .inl (r3 g))), (b5, .inl (cA 4, 39, .inl (r4 g))), (b6, .inl (cA 5, 39, .inl (r5 g))), (b7, .inl (cA 6, 39, .inr (.inr (.inl (r6 g))))), (b8, .inl (cA 7, 39, .inr (.inr (.inr (.inl (r7 g))))))] s.heap.size) s.heap s.heap [] := va_S.rf
  obtain ⟨A, hAe, hD, hA, hz, hRo, hwk, hnR⟩ := xM_start hb0 hPr hP hD0
  rw [hAe] at hS ⊢
  have hl := lv_entry ([.ref b, .int p1, .int p2]) (n := 4) (Nat.le_of_ble_eq_true rfl)
  rw [lg_entry_eq]
  generalize (lg_sl ([.ref b, .int p1, .int p2]) ++ List.replicate (4 - (lg_sl ([.ref b, .int p1, .int p2])).length) Slot.unset).toArray = ls at hl ⊢
  have hl : lv_has ls 4 [(0, .ref b), (1, .int p1), (2, .int p2)] := hl
  refine lv_iload_n hx hb dX5_make_0 rfl (lv_at hl 2 rfl) ?_
  refine lv_bipush (v := 40) hx hb dX5_make_1 (by decide) ?_
  refine lv_irem hx hb dX5_make_3 (by decide) ?_
  rw [hN]
  refine lv_istore_n (lv' := [(3, .int (nI N)), (0, .ref b), (1, .int p1), (2, .int p2)]) hx hb dX5_make_4 rfl hl (by decide) rfl (fun ls hl => ?_)
  refine lv_iload_n hx hb dX5_make_5 rfl (lv_at hl 0 rfl) ?_
  refine xr_0 (va_runS (As := [.int (nI N)]) (rest := []) ⟨hx, hb, hml, hown, xTs⟩ (c_needSize h _ (nI_pos (by omega))) ⟨xB (n := 1) (k_286 h hb0) (k_1 h hb0) (k_284 h hb0) (by decide) rfl rfl rfl (by decide) (by decide), (k_285 h hb0)⟩ (xpS hb0 hS hz (va_P.sub (hRo _ _ hS) [] rfl)) rfl rfl hl.1 rfl (lv_room (Nat.le_of_ble_eq_true rfl)) dX5_make_6 ⟨(Nat.le_of_ble_eq_true rfl), (Nat.le_of_ble_eq_true rfl)⟩) ?_
  refine lv_aload_n hx hb dX5_make_9 rfl (lv_at hl 1 rfl) ?_
  refine va_get (D := (dC, dI)) (ci := 5) (v := .ref ro) (C := RX5) (T := TX5) (N := 5) hx hb (ly_5 h hb0) (fun _ z => z) hown hK (hRo _ _ hS) 0 rfl rfl 0 (by decide) (k_110 h hb0) (fun _ z => z) rfl dX5_make_10 ?_
  refine lv_iload_n hx hb dX5_make_13 rfl (lv_at hl 2 rfl) ?_
  refine xr_1 (va_runS (As := [.int p1]) (rest := [.ref ro]) ⟨hx, hb, hml, hown, xTs⟩ (c_kindOf h _) ⟨xB (n := 1) (k_137 h hb0) (k_1 h hb0) (k_135 h hb0) (by decide) rfl rfl rfl (by decide) (by decide), (k_136 h hb0)⟩ (xpS hb0 hS hz (va_P.sub (hRo _ _ hS) [] rfl)) rfl rfl hl.1 rfl (lv_room (Nat.le_of_ble_eq_true rfl)) dX5_make_14 ⟨(Nat.le_of_ble_eq_true rfl), (Nat.le_of_ble_eq_true rfl)⟩) ?_
  rw [hKe]
  refine lv_iload_n hx hb dX5_make_17 rfl (lv_at hl 0 rfl) ?_
  refine xm_of (wc := [(b0, .inl (cA 0, 8, .inl n)), (b1, .inl (cA 0, 39, .inl (r0 g))), (b2, .inl (cA 1, 39, .inr (.inl (r1 g)))), (b3, .inl (cA 2, 39, .inl (r2 g))), (b4, .inl (cA 3, 39, .inl (r3 g))), (b5, .inl (cA 4, 39, .inl (r4 g))), (b6, .inl (cA 5, 39, .inl (r5 g))), (b7, .inl (cA 6, 39, .inr (.inr (.inl (r6 g))))), (b8, .inl (cA 7, 39, .inr (.inr (.inr (.inl (r7 g))))))]) (wo := []) (va_runV (As := [.int (nI K), .int (nI N)]) (rest := []) ⟨hx, hb, hml, hown, xTs⟩ (c_renew h ro b0 b1 b2 b3 b4 b5 b6 b7 b8 n g K N _ hK8 hN4) ⟨xB (n := 2) (k_306 h hb0) (k_2 h hb0) (k_303 h hb0) (by decide) rfl rfl rfl (by decide) (by decide), (k_304 h hb0), (k_305 h hb0)⟩ (xpMV (wr := [(ro, .inr (4, [.ref b0, .ref b1, .ref b2, .ref b3, .ref b4, .ref b5, .ref b6, .ref b7, .ref b8]))]) (wc := [(b0, .inl (cA 0, 8, .inl n)), (b1, .inl (cA 0, 39, .inl (r0 g))), (b2, .inl (cA 1, 39, .inr (.inl (r1 g)))), (b3, .inl (cA 2, 39, .inl (r2 g))), (b4, .inl (cA 3, 39, .inl (r3 g))), (b5, .inl (cA 4, 39, .inl (r4 g))), (b6, .inl (cA 5, 39, .inl (r5 g))), (b7, .inl (cA 6, 39, .inr (.inr (.inl (r6 g))))), (b8, .inl (cA 7, 39, .inr (.inr (.inr (.inl (r7 g))))))]) hb0 hS hz (va_P.sub (hRo _ _ hS) [1] rfl) (va_P.sub hP [0, 1, 2, 3, 4, 5, 6, 7, 8] rfl) (va_D.sub (xDD (xDl hD0) hD hz hnR) [1, 2, 3, 4, 5, 6, 7, 8, 9, 10] rfl rfl) (va_recv hK (hRo _ _ hS) (ci := 4) (q0 := 1) rfl rfl)) rfl rfl hl.1 rfl (lv_room (Nat.le_of_ble_eq_true rfl)) dX5_make_18 ⟨(Nat.le_of_ble_eq_true rfl), (Nat.le_of_ble_eq_true rfl)⟩) hP hD hS hA [0, 1, 2, 3, 4, 5, 6, 7, 8] [] rfl rfl rfl (by decide) (fun r w1 H locs hΦ hP hD hS => ?_)
  obtain ⟨rfl, rfl⟩ := hΦ
  have hP : va_P (dC, dI) vwCl [(b0, .inl (cA 0, 8, .inl (upd n K (nI N)))), (b1, .inl (cA 0, 39, .inl (r0 (gz g K N)))), (b2, .inl (cA 1, 39, .inr (.inl (r1 (gz g K N))))), (b3, .inl (cA 2, 39, .inl (r2 (gz g K N)))), (b4, .inl (cA 3, 39, .inl (r3 (gz g K N)))), (b5, .inl (cA 4, 39, .inl (r4 (gz g K N)))), (b6, .inl (cA 5, 39, .inl (r5 (gz g K N)))), (b7, .inl (cA 6, 39, .inr (.inr (.inl (r6 (gz g K N)))))), (b8, .inl (cA 7, 39, .inr (.inr (.inr (.inl (r7 (gz g K N)))))))] H := hP
  have hD : va_D A [(b0, .inl (cA 0, 8, .inl (upd n K (nI N)))), (b1, .inl (cA 0, 39, .inl (r0 (gz g K N)))), (b2, .inl (cA 1, 39, .inr (.inl (r1 (gz g K N))))), (b3, .inl (cA 2, 39, .inl (r2 (gz g K N)))), (b4, .inl (cA 3, 39, .inl (r3 (gz g K N)))), (b5, .inl (cA 4, 39, .inl (r4 (gz g K N)))), (b6, .inl (cA 5, 39, .inl (r5 (gz g K N)))), (b7, .inl (cA 6, 39, .inr (.inr (.inl (r6 (gz g K N)))))), (b8, .inl (cA 7, 39, .inr (.inr (.inr (.inl (r7 (gz g K N)))))))] := hD
  refine lv_iload_n hx hb dX5_make_21 rfl (lv_at hl 0 rfl) ?_
  exact W.iret hx hb hr (fun t ht _ => ⟨(some (.int (nI N))), _, rfl, ⟨rfl, rfl⟩, by rw [ht]; exact hP, hD, hS.F ht⟩) (fun q z => hS.2.2 q z) dX5_make_22
set_option maxHeartbeats 4000000 in
set_option maxRecDepth 100000 in
theorem t_make_S {l : Launch} {s0 : State} {a0 : Array Value} {dC : Nat → ClassId} {dI : Nat → Nat → Nat} {cA : Nat → ClassId} (h : xC l s0 a0 dC dI cA) (b gr br : Nat) (wr ca : Int32) (ro b0 b1 b2 b3 b4 b5 b6 b7 b8 : Nat) (n : Nat → Int32) (g : Nat → Nat → Int32) (K N : Nat) (p1 p2 : Int32) (hc : p2 - p2 / 40 * 40 < 0) : xt_Met l yX5_make [Cond.code yX5_make cX5_make 4 (some .int)] ({ frames := 8, cells := 1, slots := 8, locals := 140 } : Room) (xP s0 (dC, dI) [.ref b, .int p1, .int p2] [(b, .inr (5, [.ref ro, .ref gr, .ref br, .int wr, .int ca]))]) "java/lang/NegativeArraySizeException" 1 8 := by
  refine xt_ofW (cc := cX5_make) (maxL := 4) (ret := (some .int)) (by decide) rfl ?_
  intro p e s m args below meth c s₁ B hml hout hv
  obtain ⟨rfl, hb0, hP⟩ := hv
  have hx := B.exec
  have hb := B.bytes
  have hr := B.returns
  have hown : s.vm.findClass RX5 = some m.cls := findClass_of_methodNamed B.named
  have hlocks := B.notSynchronized
  have hK := h.K hb0
  have hS : va_S (fun _ : Nat => False) s.heap s.heap [] := va_S.rf
  have hz : ∀ q : Nat, (fun _ : Nat => False) q → s0.heap.size ≤ q := fun _ z => z.elim
  have hl := lv_entry ([.ref b, .int p1, .int p2]) (n := 4) (Nat.le_of_ble_eq_true rfl)
  rw [lg_entry_eq]
  generalize (lg_sl ([.ref b, .int p1, .int p2]) ++ List.replicate (4 - (lg_sl ([.ref b, .int p1, .int p2])).length) Slot.unset).toArray = ls at hl ⊢
  have hl : lv_has ls 4 [(0, .ref b), (1, .int p1), (2, .int p2)] := hl
  refine lv_iload_n hx hb dX5_make_0 rfl (lv_at hl 2 rfl) ?_
  refine lv_bipush (v := 40) hx hb dX5_make_1 (by decide) ?_
  refine lv_irem hx hb dX5_make_3 (by decide) ?_
  refine lv_istore_n (lv' := [(3, .int (p2 - p2 / 40 * 40)), (0, .ref b), (1, .int p1), (2, .int p2)]) hx hb dX5_make_4 rfl hl (by decide) rfl (fun ls hl => ?_)
  refine lv_iload_n hx hb dX5_make_5 rfl (lv_at hl 0 rfl) ?_
  exact xt_callS (As := [.int (p2 - p2 / 40 * 40)]) (rest := []) ⟨hx, hb, hml, hown, xTs⟩ (t_needSize h _ hc) ⟨xB (n := 1) (k_286 h hb0) (k_1 h hb0) (k_284 h hb0) (by decide) rfl rfl rfl (by decide) (by decide), (k_285 h hb0)⟩ (xpS hb0 hS hz (va_P.sub hP [] rfl)) rfl rfl hl.1 rfl (lv_room (Nat.le_of_ble_eq_true rfl)) dX5_make_6 ⟨(Nat.le_of_ble_eq_true rfl), (Nat.le_of_ble_eq_true rfl)⟩ (fun q ce H1 h1 h2 h3 h4 h5 => xt_out hout hlocks h1 h2 h3 (Nat.le_of_ble_eq_true rfl) (Nat.le_of_ble_eq_true rfl))
set_option maxHeartbeats 4000000 in
set_option maxRecDepth 100000 in
theorem c_grid {l : Launch} {s0 : State} {a0 : Array Value} {dC : Nat → ClassId} {dI : Nat → Nat → Nat} {cA : Nat → ClassId} (h : xC l s0 a0 dC dI cA) (b gr br : Nat) (wr ca : Int32) (ro gc : Nat) (z1 z2 z3 p1 p2 : Int32) (sz : Nat) (hc : ¬ p1 - p1 / 9 * 9 < 0) (hd : ¬ p2 - p2 / 9 * 9 < 0) : Met l yX5_grid [Cond.code yX5_grid cX5_grid 5 (some .int)] ({ frames := 1, cells := 0, slots := 0, locals := 40 } : Room) (xPM s0 (dC, dI) [.ref b, .int p1, .int p2] [(b, .inr (5, [.ref ro, .ref gr, .ref br, .int wr, .int ca]))] [(gr, .inr (3, [.ref gc, .int z1, .int z2, .int z3]))] sz) (xQM (dC, dI) (va_A [(gr, .inr (3, [.ref gc, .int z1, .int z2, .int z3]))] sz) (fun r w1 => r = some (.int ((p1 - p1 / 9 * 9) * (p2 - p2 / 9 * 9))) ∧ w1 = [(gr, .inr (3, [.ref gc, .int 1, .int (p1 - p1 / 9 * 9), .int (p2 - p2 / 9 * 9)]))])) 0 0 (va_A [(gr, .inr (3, [.ref gc, .int z1, .int z2, .int z3]))] sz) := by
  refine Met.ofW (cc := cX5_grid) (maxL := 5) (ret := (some .int)) (by decide) rfl ?_
  intro p e s m args below meth c s₁ B hml hv
  obtain ⟨rfl, rfl, hb0, hPr, hP, hD0⟩ := hv
  have hx := B.exec
  have hb := B.bytes
  have hr := B.returns
  have hown : s.vm.findClass RX5 = some m.cls := findClass_of_methodNamed B.named
  have hlocks := B.notSynchronized
  have hK := h.K hb0
  have hS : va_S (va_A [(gr, .inr (3, [.ref gc, .int z1, .int z2, .int z3]))] s.heap.size) s.heap s.heap [] := va_S.rf
  obtain ⟨A, hAe, hD, hA, hz, hRo, hwk, hnR⟩ := xM_start hb0 hPr hP hD0
  rw [hAe] at hS ⊢
  have hl := lv_entry ([.ref b, .int p1, .int p2]) (n := 5) (Nat.le_of_ble_eq_true rfl)
  rw [lg_entry_eq]
  generalize (lg_sl ([.ref b, .int p1, .int p2]) ++ List.replicate (5 - (lg_sl ([.ref b, .int p1, .int p2])).length) Slot.unset).toArray = ls at hl ⊢
  have hl : lv_has ls 5 [(0, .ref b), (1, .int p1), (2, .int p2)] := hl
  refine lv_iload_n hx hb dX5_grid_0 rfl (lv_at hl 1 rfl) ?_
  refine lv_bipush (v := 9) hx hb dX5_grid_1 (by decide) ?_
  refine lv_irem hx hb dX5_grid_3 (by decide) ?_
  refine lv_istore_n (lv' := [(3, .int (p1 - p1 / 9 * 9)), (0, .ref b), (1, .int p1), (2, .int p2)]) hx hb dX5_grid_4 rfl hl (by decide) rfl (fun ls hl => ?_)
  refine lv_iload_n hx hb dX5_grid_5 rfl (lv_at hl 3 rfl) ?_
  refine lv_bipush (v := 9) hx hb dX5_grid_6 (by decide) ?_
  refine lv_irem hx hb dX5_grid_8 (by decide) ?_
  refine lv_istore (lv' := [(4, .int (p2 - p2 / 9 * 9)), (3, .int (p1 - p1 / 9 * 9)), (0, .ref b), (1, .int p1), (2, .int p2)]) hx hb dX5_grid_9 hl (by decide) rfl (fun ls hl => ?_)
  refine lv_iload_n hx hb dX5_grid_11 rfl (lv_at hl 1 rfl) ?_
  refine xr_0 (va_runS (As := [.int (p1 - p1 / 9 * 9)]) (rest := []) ⟨hx, hb, hml, hown, xTs⟩ (c_needSize h _ hc) ⟨xB (n := 1) (k_286 h hb0) (k_1 h hb0) (k_284 h hb0) (by decide) rfl rfl rfl (by decide) (by decide), (k_285 h hb0)⟩ (xpS hb0 hS hz (va_P.sub (hRo _ _ hS) [] rfl)) rfl rfl hl.1 rfl (lv_room (Nat.le_of_ble_eq_true rfl)) dX5_grid_12 ⟨(Nat.le_of_ble_eq_true rfl), (Nat.le_of_ble_eq_true rfl)⟩) ?_
  refine lv_iload hx hb dX5_grid_15 (lv_at hl 0 rfl) ?_
  refine xr_0 (va_runS (As := [.int (p2 - p2 / 9 * 9)]) (rest := []) ⟨hx, hb, hml, hown, xTs⟩ (c_needSize h _ hd) ⟨xB (n := 1) (k_286 h hb0) (k_1 h hb0) (k_284 h hb0) (by decide) rfl rfl rfl (by decide) (by decide), (k_285 h hb0)⟩ (xpS hb0 hS hz (va_P.sub (hRo _ _ hS) [] rfl)) rfl rfl hl.1 rfl (lv_room (Nat.le_of_ble_eq_true rfl)) dX5_grid_17 ⟨(Nat.le_of_ble_eq_true rfl), (Nat.le_of_ble_eq_true rfl)⟩) ?_
  refine lv_aload_n hx hb dX5_grid_20 rfl (lv_at hl 2 rfl) ?_
  refine va_get (D := (dC, dI)) (ci := 5) (v := .ref gr) (C := RX5) (T := TX5) (N := 5) hx hb (ly_5 h hb0) (fun _ z => z) hown hK (hRo _ _ hS) 0 rfl rfl 1 (by decide) (k_111 h hb0) (fun _ z => z) rfl dX5_grid_21 ?_
  refine lv_iload_n hx hb dX5_grid_24 rfl (lv_at hl 1 rfl) ?_
  refine lv_iload hx hb dX5_grid_25 (lv_at hl 0 rfl) ?_
  refine xm_of (wc := [(gr, .inr (3, [.ref gc, .int z1, .int z2, .int z3]))]) (wo := []) (va_runV (As := [.int (p1 - p1 / 9 * 9), .int (p2 - p2 / 9 * 9)]) (rest := []) ⟨hx, hb, hml, hown, xTs⟩ (c_grenew h gr gc z1 z2 z3 _ _ _) ⟨xB (n := 2) (k_318 h hb0) (k_3 h hb0) (k_315 h hb0) (by decide) rfl rfl rfl (by decide) (by decide), (k_316 h hb0), (k_317 h hb0)⟩ (xpMV (wr := []) (wc := [(gr, .inr (3, [.ref gc, .int z1, .int z2, .int z3]))]) hb0 hS hz (va_P.sub hP [] rfl) (va_P.sub hP [0] rfl) (va_D.sub (xDD (xDl hD0) hD hz hnR) [1] rfl rfl) (va_recv hK hP (ci := 3) (q0 := 0) rfl rfl)) rfl rfl hl.1 rfl (lv_room (Nat.le_of_ble_eq_true rfl)) dX5_grid_27 ⟨(Nat.le_of_ble_eq_true rfl), (Nat.le_of_ble_eq_true rfl)⟩) hP hD hS hA [0] [] rfl rfl rfl (by decide) (fun r w1 H locs hΦ hP hD hS => ?_)
  obtain ⟨rfl, rfl⟩ := hΦ
  have hP : va_P (dC, dI) vwCl [(gr, .inr (3, [.ref gc, .int 1, .int (p1 - p1 / 9 * 9), .int (p2 - p2 / 9 * 9)]))] H := hP
  have hD : va_D A [(gr, .inr (3, [.ref gc, .int 1, .int (p1 - p1 / 9 * 9), .int (p2 - p2 / 9 * 9)]))] := hD
  refine lv_iload_n hx hb dX5_grid_30 rfl (lv_at hl 1 rfl) ?_
  refine lv_iload hx hb dX5_grid_31 (lv_at hl 0 rfl) ?_
  refine lv_imul hx hb dX5_grid_33 ?_
  exact W.iret hx hb hr (fun t ht _ => ⟨(some (.int ((p1 - p1 / 9 * 9) * (p2 - p2 / 9 * 9)))), _, rfl, ⟨rfl, rfl⟩, by rw [ht]; exact hP, hD, hS.F ht⟩) (fun q z => hS.2.2 q z) dX5_grid_34
set_option maxHeartbeats 4000000 in
set_option maxRecDepth 100000 in
theorem t_grid_1 {l : Launch} {s0 : State} {a0 : Array Value} {dC : Nat → ClassId} {dI : Nat → Nat → Nat} {cA : Nat → ClassId} (h : xC l s0 a0 dC dI cA) (b gr br : Nat) (wr ca : Int32) (ro gc : Nat) (z1 z2 z3 p1 p2 : Int32) (hc : p1 - p1 / 9 * 9 < 0) : xt_Met l yX5_grid [Cond.code yX5_grid cX5_grid 5 (some .int)] ({ frames := 8, cells := 1, slots := 8, locals := 140 } : Room) (xP s0 (dC, dI) [.ref b, .int p1, .int p2] [(b, .inr (5, [.ref ro, .ref gr, .ref br, .int wr, .int ca]))]) "java/lang/NegativeArraySizeException" 1 8 := by
  refine xt_ofW (cc := cX5_grid) (maxL := 5) (ret := (some .int)) (by decide) rfl ?_
  intro p e s m args below meth c s₁ B hml hout hv
  obtain ⟨rfl, hb0, hP⟩ := hv
  have hx := B.exec
  have hb := B.bytes
  have hr := B.returns
  have hown : s.vm.findClass RX5 = some m.cls := findClass_of_methodNamed B.named
  have hlocks := B.notSynchronized
  have hK := h.K hb0
  have hS : va_S (fun _ : Nat => False) s.heap s.heap [] := va_S.rf
  have hz : ∀ q : Nat, (fun _ : Nat => False) q → s0.heap.size ≤ q := fun _ z => z.elim
  have hl := lv_entry ([.ref b, .int p1, .int p2]) (n := 5) (Nat.le_of_ble_eq_true rfl)
  rw [lg_entry_eq]
  generalize (lg_sl ([.ref b, .int p1, .int p2]) ++ List.replicate (5 - (lg_sl ([.ref b, .int p1, .int p2])).length) Slot.unset).toArray = ls at hl ⊢
  have hl : lv_has ls 5 [(0, .ref b), (1, .int p1), (2, .int p2)] := hl
  refine lv_iload_n hx hb dX5_grid_0 rfl (lv_at hl 1 rfl) ?_
  refine lv_bipush (v := 9) hx hb dX5_grid_1 (by decide) ?_
  refine lv_irem hx hb dX5_grid_3 (by decide) ?_
  refine lv_istore_n (lv' := [(3, .int (p1 - p1 / 9 * 9)), (0, .ref b), (1, .int p1), (2, .int p2)]) hx hb dX5_grid_4 rfl hl (by decide) rfl (fun ls hl => ?_)
  refine lv_iload_n hx hb dX5_grid_5 rfl (lv_at hl 3 rfl) ?_
  refine lv_bipush (v := 9) hx hb dX5_grid_6 (by decide) ?_
  refine lv_irem hx hb dX5_grid_8 (by decide) ?_
  refine lv_istore (lv' := [(4, .int (p2 - p2 / 9 * 9)), (3, .int (p1 - p1 / 9 * 9)), (0, .ref b), (1, .int p1), (2, .int p2)]) hx hb dX5_grid_9 hl (by decide) rfl (fun ls hl => ?_)
  refine lv_iload_n hx hb dX5_grid_11 rfl (lv_at hl 1 rfl) ?_
  exact xt_callS (As := [.int (p1 - p1 / 9 * 9)]) (rest := []) ⟨hx, hb, hml, hown, xTs⟩ (t_needSize h _ hc) ⟨xB (n := 1) (k_286 h hb0) (k_1 h hb0) (k_284 h hb0) (by decide) rfl rfl rfl (by decide) (by decide), (k_285 h hb0)⟩ (xpS hb0 hS hz (va_P.sub hP [] rfl)) rfl rfl hl.1 rfl (lv_room (Nat.le_of_ble_eq_true rfl)) dX5_grid_12 ⟨(Nat.le_of_ble_eq_true rfl), (Nat.le_of_ble_eq_true rfl)⟩ (fun q ce H1 h1 h2 h3 h4 h5 => xt_out hout hlocks h1 h2 h3 (Nat.le_of_ble_eq_true rfl) (Nat.le_of_ble_eq_true rfl))
set_option maxHeartbeats 4000000 in
set_option maxRecDepth 100000 in
theorem t_grid_2 {l : Launch} {s0 : State} {a0 : Array Value} {dC : Nat → ClassId} {dI : Nat → Nat → Nat} {cA : Nat → ClassId} (h : xC l s0 a0 dC dI cA) (b gr br : Nat) (wr ca : Int32) (ro gc : Nat) (z1 z2 z3 p1 p2 : Int32) (hc : ¬ p1 - p1 / 9 * 9 < 0) (hd : p2 - p2 / 9 * 9 < 0) : xt_Met l yX5_grid [Cond.code yX5_grid cX5_grid 5 (some .int)] ({ frames := 8, cells := 1, slots := 8, locals := 140 } : Room) (xP s0 (dC, dI) [.ref b, .int p1, .int p2] [(b, .inr (5, [.ref ro, .ref gr, .ref br, .int wr, .int ca]))]) "java/lang/NegativeArraySizeException" 1 8 := by
  refine xt_ofW (cc := cX5_grid) (maxL := 5) (ret := (some .int)) (by decide) rfl ?_
  intro p e s m args below meth c s₁ B hml hout hv
  obtain ⟨rfl, hb0, hP⟩ := hv
  have hx := B.exec
  have hb := B.bytes
  have hr := B.returns
  have hown : s.vm.findClass RX5 = some m.cls := findClass_of_methodNamed B.named
  have hlocks := B.notSynchronized
  have hK := h.K hb0
  have hS : va_S (fun _ : Nat => False) s.heap s.heap [] := va_S.rf
  have hz : ∀ q : Nat, (fun _ : Nat => False) q → s0.heap.size ≤ q := fun _ z => z.elim
  have hl := lv_entry ([.ref b, .int p1, .int p2]) (n := 5) (Nat.le_of_ble_eq_true rfl)
  rw [lg_entry_eq]
  generalize (lg_sl ([.ref b, .int p1, .int p2]) ++ List.replicate (5 - (lg_sl ([.ref b, .int p1, .int p2])).length) Slot.unset).toArray = ls at hl ⊢
  have hl : lv_has ls 5 [(0, .ref b), (1, .int p1), (2, .int p2)] := hl
  refine lv_iload_n hx hb dX5_grid_0 rfl (lv_at hl 1 rfl) ?_
  refine lv_bipush (v := 9) hx hb dX5_grid_1 (by decide) ?_
  refine lv_irem hx hb dX5_grid_3 (by decide) ?_
  refine lv_istore_n (lv' := [(3, .int (p1 - p1 / 9 * 9)), (0, .ref b), (1, .int p1), (2, .int p2)]) hx hb dX5_grid_4 rfl hl (by decide) rfl (fun ls hl => ?_)
  refine lv_iload_n hx hb dX5_grid_5 rfl (lv_at hl 3 rfl) ?_
  refine lv_bipush (v := 9) hx hb dX5_grid_6 (by decide) ?_
  refine lv_irem hx hb dX5_grid_8 (by decide) ?_
  refine lv_istore (lv' := [(4, .int (p2 - p2 / 9 * 9)), (3, .int (p1 - p1 / 9 * 9)), (0, .ref b), (1, .int p1), (2, .int p2)]) hx hb dX5_grid_9 hl (by decide) rfl (fun ls hl => ?_)
  refine lv_iload_n hx hb dX5_grid_11 rfl (lv_at hl 1 rfl) ?_
  refine xr_0 (va_runS (As := [.int (p1 - p1 / 9 * 9)]) (rest := []) ⟨hx, hb, hml, hown, xTs⟩ (c_needSize h _ hc) ⟨xB (n := 1) (k_286 h hb0) (k_1 h hb0) (k_284 h hb0) (by decide) rfl rfl rfl (by decide) (by decide), (k_285 h hb0)⟩ (xpS hb0 hS hz (va_P.sub hP [] rfl)) rfl rfl hl.1 rfl (lv_room (Nat.le_of_ble_eq_true rfl)) dX5_grid_12 ⟨(Nat.le_of_ble_eq_true rfl), (Nat.le_of_ble_eq_true rfl)⟩) ?_
  refine lv_iload hx hb dX5_grid_15 (lv_at hl 0 rfl) ?_
  exact xt_callS (As := [.int (p2 - p2 / 9 * 9)]) (rest := []) ⟨hx, hb, hml, hown, xTs⟩ (t_needSize h _ hd) ⟨xB (n := 1) (k_286 h hb0) (k_1 h hb0) (k_284 h hb0) (by decide) rfl rfl rfl (by decide) (by decide), (k_285 h hb0)⟩ (xpS hb0 hS hz (va_P.sub hP [] rfl)) rfl rfl hl.1 rfl (lv_room (Nat.le_of_ble_eq_true rfl)) dX5_grid_17 ⟨(Nat.le_of_ble_eq_true rfl), (Nat.le_of_ble_eq_true rfl)⟩ (fun q ce H1 h1 h2 h3 h4 h5 => xt_out hout hlocks h1 h2 h3 (Nat.le_of_ble_eq_true rfl) (Nat.le_of_ble_eq_true rfl))
set_option maxHeartbeats 4000000 in
set_option maxRecDepth 100000 in
theorem c_cell {l : Launch} {s0 : State} {a0 : Array Value} {dC : Nat → ClassId} {dI : Nat → Nat → Nat} {cA : Nat → ClassId} (h : xC l s0 a0 dC dI cA) (b gr br : Nat) (wr ca : Int32) (ro gc : Nat) (z1 z2 z3 p2 : Int32) (ga : Nat → Nat) (gf : Nat → Int32) (I : Nat) (hm : z1 = 0 ∨ z1 = 1) (ht : ¬ z1 = 0) (hI : I < 8) (h1 : nI I < z2) (h2 : ¬ p2 < 0) (h3 : p2 < z3) (hi : vp_in p2 8) : Met l yX5_cell [Cond.code yX5_cell cX5_cell 3 (some .int)] ({ frames := 1, cells := 0, slots := 0, locals := 40 } : Room) (xP s0 (dC, dI) [.ref b, .int (nI I), .int p2] [(b, .inr (5, [.ref ro, .ref gr, .ref br, .int wr, .int ca])), (gr, .inr (3, [.ref gc, .int z1, .int z2, .int z3])), (gc, .inl (cA 9, 8, .inr (.inr (.inr (.inr (fun i => some (ga i))))))), (ga I, .inl (cA 0, 8, .inl gf))]) (xR (some (.int (gf p2.toNatClampNeg)))) 0 0 (fun _ => False) := by
  refine Met.ofW (cc := cX5_cell) (maxL := 3) (ret := (some .int)) (by decide) rfl ?_
  intro p e s m args below meth c s₁ B hml hv
  obtain ⟨rfl, hb0, hP⟩ := hv
  have hx := B.exec
  have hb := B.bytes
  have hr := B.returns
  have hown : s.vm.findClass RX5 = some m.cls := findClass_of_methodNamed B.named
  have hlocks := B.notSynchronized
  have hK := h.K hb0
  have hS : va_S (fun _ : Nat => False) s.heap s.heap [] := va_S.rf
  have hz : ∀ q : Nat, (fun _ : Nat => False) q → s0.heap.size ≤ q := fun _ z => z.elim
  have hl := lv_entry ([.ref b, .int (nI I), .int p2]) (n := 3) (Nat.le_of_ble_eq_true rfl)
  rw [lg_entry_eq]
  generalize (lg_sl ([.ref b, .int (nI I), .int p2]) ++ List.replicate (3 - (lg_sl ([.ref b, .int (nI I), .int p2])).length) Slot.unset).toArray = ls at hl ⊢
  have hl : lv_has ls 3 [(0, .ref b), (1, .int (nI I)), (2, .int p2)] := hl
  refine lv_aload_n hx hb dX5_cell_0 rfl (lv_at hl 0 rfl) ?_
  refine va_get (D := (dC, dI)) (ci := 5) (v := .ref gr) (C := RX5) (T := TX5) (N := 5) hx hb (ly_5 h hb0) (fun _ z => z) hown hK hP 0 rfl rfl 1 (by decide) (k_111 h hb0) (fun _ z => z) rfl dX5_cell_1 ?_
  refine xr_1 (va_runV (As := []) (rest := []) ⟨hx, hb, hml, hown, xTs⟩ (c_gisMade h gr gc z1 z2 z3 hm) ⟨xB (n := 0) (k_329 h hb0) (k_3 h hb0) (k_326 h hb0) (by decide) rfl rfl rfl (by decide) (by decide), (k_327 h hb0), (k_328 h hb0)⟩ (xpV hb0 hS hz (va_P.sub hP [1] rfl) (va_recv hK hP (ci := 3) (q0 := 1) rfl rfl)) rfl rfl hl.1 rfl (lv_room (Nat.le_of_ble_eq_true rfl)) dX5_cell_4 ⟨(Nat.le_of_ble_eq_true rfl), (Nat.le_of_ble_eq_true rfl)⟩) ?_
  refine xr_0 (va_runS (As := [.int z1]) (rest := []) ⟨hx, hb, hml, hown, xTs⟩ (c_needThere h _ ht) ⟨xB (n := 1) (k_140 h hb0) (k_1 h hb0) (k_138 h hb0) (by decide) rfl rfl rfl (by decide) (by decide), (k_139 h hb0)⟩ (xpS hb0 hS hz (va_P.sub hP [] rfl)) rfl rfl hl.1 rfl (lv_room (Nat.le_of_ble_eq_true rfl)) dX5_cell_7 ⟨(Nat.le_of_ble_eq_true rfl), (Nat.le_of_ble_eq_true rfl)⟩) ?_
  refine lv_iload_n hx hb dX5_cell_10 rfl (lv_at hl 1 rfl) ?_
  refine lv_aload_n hx hb dX5_cell_11 rfl (lv_at hl 0 rfl) ?_
  refine va_get (D := (dC, dI)) (ci := 5) (v := .ref gr) (C := RX5) (T := TX5) (N := 5) hx hb (ly_5 h hb0) (fun _ z => z) hown hK hP 0 rfl rfl 1 (by decide) (k_111 h hb0) (fun _ z => z) rfl dX5_cell_12 ?_
  refine xr_1 (va_runV (As := []) (rest := [.int (nI I)]) ⟨hx, hb, hml, hown, xTs⟩ (c_growCount h gr gc z1 z2 z3) ⟨xB (n := 0) (k_333 h hb0) (k_3 h hb0) (k_330 h hb0) (by decide) rfl rfl rfl (by decide) (by decide), (k_331 h hb0), (k_332 h hb0)⟩ (xpV hb0 hS hz (va_P.sub hP [1] rfl) (va_recv hK hP (ci := 3) (q0 := 1) rfl rfl)) rfl rfl hl.1 rfl (lv_room (Nat.le_of_ble_eq_true rfl)) dX5_cell_15 ⟨(Nat.le_of_ble_eq_true rfl), (Nat.le_of_ble_eq_true rfl)⟩) ?_
  refine xr_0 (va_runS (As := [.int (nI I), .int z2]) (rest := []) ⟨hx, hb, hml, hown, xTs⟩ (c_needPlace h _ _ (nI_pos (by omega)) h1) ⟨xB (n := 2) (k_232 h hb0) (k_1 h hb0) (k_230 h hb0) (by decide) rfl rfl rfl (by decide) (by decide), (k_231 h hb0)⟩ (xpS hb0 hS hz (va_P.sub hP [] rfl)) rfl rfl hl.1 rfl (lv_room (Nat.le_of_ble_eq_true rfl)) dX5_cell_18 ⟨(Nat.le_of_ble_eq_true rfl), (Nat.le_of_ble_eq_true rfl)⟩) ?_
  refine lv_iload_n hx hb dX5_cell_21 rfl (lv_at hl 2 rfl) ?_
  refine lv_aload_n hx hb dX5_cell_22 rfl (lv_at hl 0 rfl) ?_
  refine va_get (D := (dC, dI)) (ci := 5) (v := .ref gr) (C := RX5) (T := TX5) (N := 5) hx hb (ly_5 h hb0) (fun _ z => z) hown hK hP 0 rfl rfl 1 (by decide) (k_111 h hb0) (fun _ z => z) rfl dX5_cell_23 ?_
  refine xr_1 (va_runV (As := []) (rest := [.int p2]) ⟨hx, hb, hml, hown, xTs⟩ (c_gcolumnCount h gr gc z1 z2 z3) ⟨xB (n := 0) (k_337 h hb0) (k_3 h hb0) (k_334 h hb0) (by decide) rfl rfl rfl (by decide) (by decide), (k_335 h hb0), (k_336 h hb0)⟩ (xpV hb0 hS hz (va_P.sub hP [1] rfl) (va_recv hK hP (ci := 3) (q0 := 1) rfl rfl)) rfl rfl hl.1 rfl (lv_room (Nat.le_of_ble_eq_true rfl)) dX5_cell_26 ⟨(Nat.le_of_ble_eq_true rfl), (Nat.le_of_ble_eq_true rfl)⟩) ?_
  refine xr_0 (va_runS (As := [.int p2, .int z3]) (rest := []) ⟨hx, hb, hml, hown, xTs⟩ (c_needPlace h _ _ h2 h3) ⟨xB (n := 2) (k_232 h hb0) (k_1 h hb0) (k_230 h hb0) (by decide) rfl rfl rfl (by decide) (by decide), (k_231 h hb0)⟩ (xpS hb0 hS hz (va_P.sub hP [] rfl)) rfl rfl hl.1 rfl (lv_room (Nat.le_of_ble_eq_true rfl)) dX5_cell_29 ⟨(Nat.le_of_ble_eq_true rfl), (Nat.le_of_ble_eq_true rfl)⟩) ?_
  refine lv_aload_n hx hb dX5_cell_32 rfl (lv_at hl 0 rfl) ?_
  refine va_get (D := (dC, dI)) (ci := 5) (v := .ref gr) (C := RX5) (T := TX5) (N := 5) hx hb (ly_5 h hb0) (fun _ z => z) hown hK hP 0 rfl rfl 1 (by decide) (k_111 h hb0) (fun _ z => z) rfl dX5_cell_33 ?_
  refine lv_iload_n hx hb dX5_cell_36 rfl (lv_at hl 1 rfl) ?_
  refine lv_iload_n hx hb dX5_cell_37 rfl (lv_at hl 2 rfl) ?_
  refine xr_1 (va_runV (As := [.int (nI I), .int p2]) (rest := []) ⟨hx, hb, hml, hown, xTs⟩ (c_gnumberAt h gr gc z1 z2 z3 ga gf I p2 hI hi) ⟨xB (n := 2) (k_341 h hb0) (k_3 h hb0) (k_338 h hb0) (by decide) rfl rfl rfl (by decide) (by decide), (k_339 h hb0), (k_340 h hb0)⟩ (xpV hb0 hS hz (va_P.sub hP [1, 2, 3] rfl) (va_recv hK hP (ci := 3) (q0 := 1) rfl rfl)) rfl rfl hl.1 rfl (lv_room (Nat.le_of_ble_eq_true rfl)) dX5_cell_38 ⟨(Nat.le_of_ble_eq_true rfl), (Nat.le_of_ble_eq_true rfl)⟩) ?_
  exact W.iret hx hb hr (fun t ht _ => ⟨rfl, ht⟩) (fun q z => nomatch z) dX5_cell_41
set_option maxHeartbeats 4000000 in
set_option maxRecDepth 100000 in
theorem t_cell_N {l : Launch} {s0 : State} {a0 : Array Value} {dC : Nat → ClassId} {dI : Nat → Nat → Nat} {cA : Nat → ClassId} (h : xC l s0 a0 dC dI cA) (b gr br : Nat) (wr ca : Int32) (ro gc : Nat) (z1 z2 z3 p1 p2 : Int32) (hm : z1 = 0 ∨ z1 = 1) (ht : z1 = 0) : xt_Met l yX5_cell [Cond.code yX5_cell cX5_cell 3 (some .int)] ({ frames := 8, cells := 1, slots := 8, locals := 140 } : Room) (xP s0 (dC, dI) [.ref b, .int p1, .int p2] [(b, .inr (5, [.ref ro, .ref gr, .ref br, .int wr, .int ca])), (gr, .inr (3, [.ref gc, .int z1, .int z2, .int z3]))]) "java/lang/NullPointerException" 1 8 := by
  refine xt_ofW (cc := cX5_cell) (maxL := 3) (ret := (some .int)) (by decide) rfl ?_
  intro p e s m args below meth c s₁ B hml hout hv
  obtain ⟨rfl, hb0, hP⟩ := hv
  have hx := B.exec
  have hb := B.bytes
  have hr := B.returns
  have hown : s.vm.findClass RX5 = some m.cls := findClass_of_methodNamed B.named
  have hlocks := B.notSynchronized
  have hK := h.K hb0
  have hS : va_S (fun _ : Nat => False) s.heap s.heap [] := va_S.rf
  have hz : ∀ q : Nat, (fun _ : Nat => False) q → s0.heap.size ≤ q := fun _ z => z.elim
  have hl := lv_entry ([.ref b, .int p1, .int p2]) (n := 3) (Nat.le_of_ble_eq_true rfl)
  rw [lg_entry_eq]
  generalize (lg_sl ([.ref b, .int p1, .int p2]) ++ List.replicate (3 - (lg_sl ([.ref b, .int p1, .int p2])).length) Slot.unset).toArray = ls at hl ⊢
  have hl : lv_has ls 3 [(0, .ref b), (1, .int p1), (2, .int p2)] := hl
  refine lv_aload_n hx hb dX5_cell_0 rfl (lv_at hl 0 rfl) ?_
  refine va_get (D := (dC, dI)) (ci := 5) (v := .ref gr) (C := RX5) (T := TX5) (N := 5) hx hb (ly_5 h hb0) (fun _ z => z) hown hK hP 0 rfl rfl 1 (by decide) (k_111 h hb0) (fun _ z => z) rfl dX5_cell_1 ?_
  refine xr_1 (va_runV (As := []) (rest := []) ⟨hx, hb, hml, hown, xTs⟩ (c_gisMade h gr gc z1 z2 z3 hm) ⟨xB (n := 0) (k_329 h hb0) (k_3 h hb0) (k_326 h hb0) (by decide) rfl rfl rfl (by decide) (by decide), (k_327 h hb0), (k_328 h hb0)⟩ (xpV hb0 hS hz (va_P.sub hP [1] rfl) (va_recv hK hP (ci := 3) (q0 := 1) rfl rfl)) rfl rfl hl.1 rfl (lv_room (Nat.le_of_ble_eq_true rfl)) dX5_cell_4 ⟨(Nat.le_of_ble_eq_true rfl), (Nat.le_of_ble_eq_true rfl)⟩) ?_
  exact xt_callS (As := [.int z1]) (rest := []) ⟨hx, hb, hml, hown, xTs⟩ (t_needThere h _ ht) ⟨xB (n := 1) (k_140 h hb0) (k_1 h hb0) (k_138 h hb0) (by decide) rfl rfl rfl (by decide) (by decide), (k_139 h hb0)⟩ (xpS hb0 hS hz (va_P.sub hP [] rfl)) rfl rfl hl.1 rfl (lv_room (Nat.le_of_ble_eq_true rfl)) dX5_cell_7 ⟨(Nat.le_of_ble_eq_true rfl), (Nat.le_of_ble_eq_true rfl)⟩ (fun q ce H1 h1 h2 h3 h4 h5 => xt_out hout hlocks h1 h2 h3 (Nat.le_of_ble_eq_true rfl) (Nat.le_of_ble_eq_true rfl))
set_option maxHeartbeats 4000000 in
set_option maxRecDepth 100000 in
theorem t_cell_1 {l : Launch} {s0 : State} {a0 : Array Value} {dC : Nat → ClassId} {dI : Nat → Nat → Nat} {cA : Nat → ClassId} (h : xC l s0 a0 dC dI cA) (b gr br : Nat) (wr ca : Int32) (ro gc : Nat) (z1 z2 z3 p1 p2 : Int32) (hm : z1 = 0 ∨ z1 = 1) (ht : ¬ z1 = 0) (hc : p1 < 0 ∨ ¬ p1 < z2) : xt_Met l yX5_cell [Cond.code yX5_cell cX5_cell 3 (some .int)] ({ frames := 8, cells := 1, slots := 8, locals := 140 } : Room) (xP s0 (dC, dI) [.ref b, .int p1, .int p2] [(b, .inr (5, [.ref ro, .ref gr, .ref br, .int wr, .int ca])), (gr, .inr (3, [.ref gc, .int z1, .int z2, .int z3]))]) "java/lang/ArrayIndexOutOfBoundsException" 1 8 := by
  refine xt_ofW (cc := cX5_cell) (maxL := 3) (ret := (some .int)) (by decide) rfl ?_
  intro p e s m args below meth c s₁ B hml hout hv
  obtain ⟨rfl, hb0, hP⟩ := hv
  have hx := B.exec
  have hb := B.bytes
  have hr := B.returns
  have hown : s.vm.findClass RX5 = some m.cls := findClass_of_methodNamed B.named
  have hlocks := B.notSynchronized
  have hK := h.K hb0
  have hS : va_S (fun _ : Nat => False) s.heap s.heap [] := va_S.rf
  have hz : ∀ q : Nat, (fun _ : Nat => False) q → s0.heap.size ≤ q := fun _ z => z.elim
  have hl := lv_entry ([.ref b, .int p1, .int p2]) (n := 3) (Nat.le_of_ble_eq_true rfl)
  rw [lg_entry_eq]
  generalize (lg_sl ([.ref b, .int p1, .int p2]) ++ List.replicate (3 - (lg_sl ([.ref b, .int p1, .int p2])).length) Slot.unset).toArray = ls at hl ⊢
  have hl : lv_has ls 3 [(0, .ref b), (1, .int p1), (2, .int p2)] := hl
  refine lv_aload_n hx hb dX5_cell_0 rfl (lv_at hl 0 rfl) ?_
  refine va_get (D := (dC, dI)) (ci := 5) (v := .ref gr) (C := RX5) (T := TX5) (N := 5) hx hb (ly_5 h hb0) (fun _ z => z) hown hK hP 0 rfl rfl 1 (by decide) (k_111 h hb0) (fun _ z => z) rfl dX5_cell_1 ?_
  refine xr_1 (va_runV (As := []) (rest := []) ⟨hx, hb, hml, hown, xTs⟩ (c_gisMade h gr gc z1 z2 z3 hm) ⟨xB (n := 0) (k_329 h hb0) (k_3 h hb0) (k_326 h hb0) (by decide) rfl rfl rfl (by decide) (by decide), (k_327 h hb0), (k_328 h hb0)⟩ (xpV hb0 hS hz (va_P.sub hP [1] rfl) (va_recv hK hP (ci := 3) (q0 := 1) rfl rfl)) rfl rfl hl.1 rfl (lv_room (Nat.le_of_ble_eq_true rfl)) dX5_cell_4 ⟨(Nat.le_of_ble_eq_true rfl), (Nat.le_of_ble_eq_true rfl)⟩) ?_
  refine xr_0 (va_runS (As := [.int z1]) (rest := []) ⟨hx, hb, hml, hown, xTs⟩ (c_needThere h _ ht) ⟨xB (n := 1) (k_140 h hb0) (k_1 h hb0) (k_138 h hb0) (by decide) rfl rfl rfl (by decide) (by decide), (k_139 h hb0)⟩ (xpS hb0 hS hz (va_P.sub hP [] rfl)) rfl rfl hl.1 rfl (lv_room (Nat.le_of_ble_eq_true rfl)) dX5_cell_7 ⟨(Nat.le_of_ble_eq_true rfl), (Nat.le_of_ble_eq_true rfl)⟩) ?_
  refine lv_iload_n hx hb dX5_cell_10 rfl (lv_at hl 1 rfl) ?_
  refine lv_aload_n hx hb dX5_cell_11 rfl (lv_at hl 0 rfl) ?_
  refine va_get (D := (dC, dI)) (ci := 5) (v := .ref gr) (C := RX5) (T := TX5) (N := 5) hx hb (ly_5 h hb0) (fun _ z => z) hown hK hP 0 rfl rfl 1 (by decide) (k_111 h hb0) (fun _ z => z) rfl dX5_cell_12 ?_
  refine xr_1 (va_runV (As := []) (rest := [.int p1]) ⟨hx, hb, hml, hown, xTs⟩ (c_growCount h gr gc z1 z2 z3) ⟨xB (n := 0) (k_333 h hb0) (k_3 h hb0) (k_330 h hb0) (by decide) rfl rfl rfl (by decide) (by decide), (k_331 h hb0), (k_332 h hb0)⟩ (xpV hb0 hS hz (va_P.sub hP [1] rfl) (va_recv hK hP (ci := 3) (q0 := 1) rfl rfl)) rfl rfl hl.1 rfl (lv_room (Nat.le_of_ble_eq_true rfl)) dX5_cell_15 ⟨(Nat.le_of_ble_eq_true rfl), (Nat.le_of_ble_eq_true rfl)⟩) ?_
  exact xt_callS (As := [.int p1, .int z2]) (rest := []) ⟨hx, hb, hml, hown, xTs⟩ (t_needPlace h _ _ hc) ⟨xB (n := 2) (k_232 h hb0) (k_1 h hb0) (k_230 h hb0) (by decide) rfl rfl rfl (by decide) (by decide), (k_231 h hb0)⟩ (xpS hb0 hS hz (va_P.sub hP [] rfl)) rfl rfl hl.1 rfl (lv_room (Nat.le_of_ble_eq_true rfl)) dX5_cell_18 ⟨(Nat.le_of_ble_eq_true rfl), (Nat.le_of_ble_eq_true rfl)⟩ (fun q ce H1 h1 h2 h3 h4 h5 => xt_out hout hlocks h1 h2 h3 (Nat.le_of_ble_eq_true rfl) (Nat.le_of_ble_eq_true rfl))
set_option maxHeartbeats 4000000 in
set_option maxRecDepth 100000 in
theorem t_cell_2 {l : Launch} {s0 : State} {a0 : Array Value} {dC : Nat → ClassId} {dI : Nat → Nat → Nat} {cA : Nat → ClassId} (h : xC l s0 a0 dC dI cA) (b gr br : Nat) (wr ca : Int32) (ro gc : Nat) (z1 z2 z3 p1 p2 : Int32) (hm : z1 = 0 ∨ z1 = 1) (ht : ¬ z1 = 0) (h0 : ¬ p1 < 0) (h1 : p1 < z2) (hc : p2 < 0 ∨ ¬ p2 < z3) : xt_Met l yX5_cell [Cond.code yX5_cell cX5_cell 3 (some .int)] ({ frames := 8, cells := 1, slots := 8, locals := 140 } : Room) (xP s0 (dC, dI) [.ref b, .int p1, .int p2] [(b, .inr (5, [.ref ro, .ref gr, .ref br, .int wr, .int ca])), (gr, .inr (3, [.ref gc, .int z1, .int z2, .int z3]))]) "java/lang/ArrayIndexOutOfBoundsException" 1 8 := by
  refine xt_ofW (cc := cX5_cell) (maxL := 3) (ret := (some .int)) (by decide) rfl ?_
  intro p e s m args below meth c s₁ B hml hout hv
  obtain ⟨rfl, hb0, hP⟩ := hv
  have hx := B.exec
  have hb := B.bytes
  have hr := B.returns
  have hown : s.vm.findClass RX5 = some m.cls := findClass_of_methodNamed B.named
  have hlocks := B.notSynchronized
  have hK := h.K hb0
  have hS : va_S (fun _ : Nat => False) s.heap s.heap [] := va_S.rf
  have hz : ∀ q : Nat, (fun _ : Nat => False) q → s0.heap.size ≤ q := fun _ z => z.elim
  have hl := lv_entry ([.ref b, .int p1, .int p2]) (n := 3) (Nat.le_of_ble_eq_true rfl)
  rw [lg_entry_eq]
  generalize (lg_sl ([.ref b, .int p1, .int p2]) ++ List.replicate (3 - (lg_sl ([.ref b, .int p1, .int p2])).length) Slot.unset).toArray = ls at hl ⊢
  have hl : lv_has ls 3 [(0, .ref b), (1, .int p1), (2, .int p2)] := hl
  refine lv_aload_n hx hb dX5_cell_0 rfl (lv_at hl 0 rfl) ?_
  refine va_get (D := (dC, dI)) (ci := 5) (v := .ref gr) (C := RX5) (T := TX5) (N := 5) hx hb (ly_5 h hb0) (fun _ z => z) hown hK hP 0 rfl rfl 1 (by decide) (k_111 h hb0) (fun _ z => z) rfl dX5_cell_1 ?_
  refine xr_1 (va_runV (As := []) (rest := []) ⟨hx, hb, hml, hown, xTs⟩ (c_gisMade h gr gc z1 z2 z3 hm) ⟨xB (n := 0) (k_329 h hb0) (k_3 h hb0) (k_326 h hb0) (by decide) rfl rfl rfl (by decide) (by decide), (k_327 h hb0), (k_328 h hb0)⟩ (xpV hb0 hS hz (va_P.sub hP [1] rfl) (va_recv hK hP (ci := 3) (q0 := 1) rfl rfl)) rfl rfl hl.1 rfl (lv_room (Nat.le_of_ble_eq_true rfl)) dX5_cell_4 ⟨(Nat.le_of_ble_eq_true rfl), (Nat.le_of_ble_eq_true rfl)⟩) ?_
  refine xr_0 (va_runS (As := [.int z1]) (rest := []) ⟨hx, hb, hml, hown, xTs⟩ (c_needThere h _ ht) ⟨xB (n := 1) (k_140 h hb0) (k_1 h hb0) (k_138 h hb0) (by decide) rfl rfl rfl (by decide) (by decide), (k_139 h hb0)⟩ (xpS hb0 hS hz (va_P.sub hP [] rfl)) rfl rfl hl.1 rfl (lv_room (Nat.le_of_ble_eq_true rfl)) dX5_cell_7 ⟨(Nat.le_of_ble_eq_true rfl), (Nat.le_of_ble_eq_true rfl)⟩) ?_
  refine lv_iload_n hx hb dX5_cell_10 rfl (lv_at hl 1 rfl) ?_
  refine lv_aload_n hx hb dX5_cell_11 rfl (lv_at hl 0 rfl) ?_
  refine va_get (D := (dC, dI)) (ci := 5) (v := .ref gr) (C := RX5) (T := TX5) (N := 5) hx hb (ly_5 h hb0) (fun _ z => z) hown hK hP 0 rfl rfl 1 (by decide) (k_111 h hb0) (fun _ z => z) rfl dX5_cell_12 ?_
  refine xr_1 (va_runV (As := []) (rest := [.int p1]) ⟨hx, hb, hml, hown, xTs⟩ (c_growCount h gr gc z1 z2 z3) ⟨xB (n := 0) (k_333 h hb0) (k_3 h hb0) (k_330 h hb0) (by decide) rfl rfl rfl (by decide) (by decide), (k_331 h hb0), (k_332 h hb0)⟩ (xpV hb0 hS hz (va_P.sub hP [1] rfl) (va_recv hK hP (ci := 3) (q0 := 1) rfl rfl)) rfl rfl hl.1 rfl (lv_room (Nat.le_of_ble_eq_true rfl)) dX5_cell_15 ⟨(Nat.le_of_ble_eq_true rfl), (Nat.le_of_ble_eq_true rfl)⟩) ?_
  refine xr_0 (va_runS (As := [.int p1, .int z2]) (rest := []) ⟨hx, hb, hml, hown, xTs⟩ (c_needPlace h _ _ h0 h1) ⟨xB (n := 2) (k_232 h hb0) (k_1 h hb0) (k_230 h hb0) (by decide) rfl rfl rfl (by decide) (by decide), (k_231 h hb0)⟩ (xpS hb0 hS hz (va_P.sub hP [] rfl)) rfl rfl hl.1 rfl (lv_room (Nat.le_of_ble_eq_true rfl)) dX5_cell_18 ⟨(Nat.le_of_ble_eq_true rfl), (Nat.le_of_ble_eq_true rfl)⟩) ?_
  refine lv_iload_n hx hb dX5_cell_21 rfl (lv_at hl 2 rfl) ?_
  refine lv_aload_n hx hb dX5_cell_22 rfl (lv_at hl 0 rfl) ?_
  refine va_get (D := (dC, dI)) (ci := 5) (v := .ref gr) (C := RX5) (T := TX5) (N := 5) hx hb (ly_5 h hb0) (fun _ z => z) hown hK hP 0 rfl rfl 1 (by decide) (k_111 h hb0) (fun _ z => z) rfl dX5_cell_23 ?_
  refine xr_1 (va_runV (As := []) (rest := [.int p2]) ⟨hx, hb, hml, hown, xTs⟩ (c_gcolumnCount h gr gc z1 z2 z3) ⟨xB (n := 0) (k_337 h hb0) (k_3 h hb0) (k_334 h hb0) (by decide) rfl rfl rfl (by decide) (by decide), (k_335 h hb0), (k_336 h hb0)⟩ (xpV hb0 hS hz (va_P.sub hP [1] rfl) (va_recv hK hP (ci := 3) (q0 := 1) rfl rfl)) rfl rfl hl.1 rfl (lv_room (Nat.le_of_ble_eq_true rfl)) dX5_cell_26 ⟨(Nat.le_of_ble_eq_true rfl), (Nat.le_of_ble_eq_true rfl)⟩) ?_
  exact xt_callS (As := [.int p2, .int z3]) (rest := []) ⟨hx, hb, hml, hown, xTs⟩ (t_needPlace h _ _ hc) ⟨xB (n := 2) (k_232 h hb0) (k_1 h hb0) (k_230 h hb0) (by decide) rfl rfl rfl (by decide) (by decide), (k_231 h hb0)⟩ (xpS hb0 hS hz (va_P.sub hP [] rfl)) rfl rfl hl.1 rfl (lv_room (Nat.le_of_ble_eq_true rfl)) dX5_cell_29 ⟨(Nat.le_of_ble_eq_true rfl), (Nat.le_of_ble_eq_true rfl)⟩ (fun q ce H1 h1 h2 h3 h4 h5 => xt_out hout hlocks h1 h2 h3 (Nat.le_of_ble_eq_true rfl) (Nat.le_of_ble_eq_true rfl))
set_option maxHeartbeats 4000000 in
set_option maxRecDepth 100000 in
theorem c_boxes {l : Launch} {s0 : State} {a0 : Array Value} {dC : Nat → ClassId} {dI : Nat → Nat → Nat} {cA : Nat → ClassId} (h : xC l s0 a0 dC dI cA) (b gr br : Nat) (wr ca : Int32) (ro pl : Nat) (z1 z2 z3 p1 p2 : Int32) (f : Nat → Option Nat) (N : Nat) (sz : Nat) (hN : p1 - p1 / 20 * 20 = nI N) (hN4 : N < 20) (h01 : p2 = 0 ∨ p2 = 1) : Met l yX5_boxes [Cond.code yX5_boxes cX5_boxes 4 (some .int)] ({ frames := 1, cells := 0, slots := 0, locals := 40 } : Room) (xPM s0 (dC, dI) [.ref b, .int p1, .int p2] [(b, .inr (5, [.ref ro, .ref gr, .ref br, .int wr, .int ca]))] [(br, .inr (1, [.ref pl, .int z1, .int z2, .int z3])), (pl, .inl (cA 8, 19, .inr (.inr (.inr (.inr f)))))] sz) (xQM (dC, dI) (va_A [(br, .inr (1, [.ref pl, .int z1, .int z2, .int z3])), (pl, .inl (cA 8, 19, .inr (.inr (.inr (.inr f)))))] sz) (fun r w1 => r = some (.int (nI N)) ∧ w1 = [(br, .inr (1, [.ref pl, .int 1, .int p2, .int (nI N)])), (pl, .inl (cA 8, 19, .inr (.inr (.inr (.inr (pz f N))))))])) 0 0 (va_A [(br, .inr (1, [.ref pl, .int z1, .int z2, .int z3])), (pl, .inl (cA 8, 19, .inr (.inr (.inr (.inr f)))))] sz) := by
  refine Met.ofW (cc := cX5_boxes) (maxL := 4) (ret := (some .int)) (by decide) rfl ?_
  intro p e s m args below meth c s₁ B hml hv
  obtain ⟨rfl, rfl, hb0, hPr, hP, hD0⟩ := hv
  have hx := B.exec
  have hb := B.bytes
  have hr := B.returns
  have hown : s.vm.findClass RX5 = some m.cls := findClass_of_methodNamed B.named
  have hlocks := B.notSynchronized
  have hK := h.K hb0
  have hS : va_S (va_A [(br, .inr (1, [.ref pl, .int z1, .int z2, .int z3])), (pl, .inl (cA 8, 19, .inr (.inr (.inr (.inr f)))))] s.heap.size) s.heap s.heap [] := va_S.rf
  obtain ⟨A, hAe, hD, hA, hz, hRo, hwk, hnR⟩ := xM_start hb0 hPr hP hD0
  rw [hAe] at hS ⊢
  have hl := lv_entry ([.ref b, .int p1, .int p2]) (n := 4) (Nat.le_of_ble_eq_true rfl)
  rw [lg_entry_eq]
  generalize (lg_sl ([.ref b, .int p1, .int p2]) ++ List.replicate (4 - (lg_sl ([.ref b, .int p1, .int p2])).length) Slot.unset).toArray = ls at hl ⊢
  have hl : lv_has ls 4 [(0, .ref b), (1, .int p1), (2, .int p2)] := hl
  refine lv_iload_n hx hb dX5_boxes_0 rfl (lv_at hl 1 rfl) ?_
  refine lv_bipush (v := 20) hx hb dX5_boxes_1 (by decide) ?_
  refine lv_irem hx hb dX5_boxes_3 (by decide) ?_
  rw [hN]
  refine lv_istore_n (lv' := [(3, .int (nI N)), (0, .ref b), (1, .int p1), (2, .int p2)]) hx hb dX5_boxes_4 rfl hl (by decide) rfl (fun ls hl => ?_)
  refine lv_iload_n hx hb dX5_boxes_5 rfl (lv_at hl 0 rfl) ?_
  refine xr_0 (va_runS (As := [.int (nI N)]) (rest := []) ⟨hx, hb, hml, hown, xTs⟩ (c_needSize h _ (nI_pos (by omega))) ⟨xB (n := 1) (k_286 h hb0) (k_1 h hb0) (k_284 h hb0) (by decide) rfl rfl rfl (by decide) (by decide), (k_285 h hb0)⟩ (xpS hb0 hS hz (va_P.sub (hRo _ _ hS) [] rfl)) rfl rfl hl.1 rfl (lv_room (Nat.le_of_ble_eq_true rfl)) dX5_boxes_6 ⟨(Nat.le_of_ble_eq_true rfl), (Nat.le_of_ble_eq_true rfl)⟩) ?_
  refine lv_aload_n hx hb dX5_boxes_9 rfl (lv_at hl 1 rfl) ?_
  refine va_get (D := (dC, dI)) (ci := 5) (v := .ref br) (C := RX5) (T := TX5) (N := 5) hx hb (ly_5 h hb0) (fun _ z => z) hown hK (hRo _ _ hS) 0 rfl rfl 2 (by decide) (k_112 h hb0) (fun _ z => z) rfl dX5_boxes_10 ?_
  refine lv_iload_n hx hb dX5_boxes_13 rfl (lv_at hl 0 rfl) ?_
  refine lv_iload_n hx hb dX5_boxes_14 rfl (lv_at hl 3 rfl) ?_
  refine xm_of (wc := [(br, .inr (1, [.ref pl, .int z1, .int z2, .int z3])), (pl, .inl (cA 8, 19, .inr (.inr (.inr (.inr f)))))]) (wo := []) (va_runV (As := [.int (nI N), .int p2]) (rest := []) ⟨hx, hb, hml, hown, xTs⟩ (c_brenew h br pl z1 z2 z3 p2 f N _ hN4 h01) ⟨xB (n := 2) (k_352 h hb0) (k_4 h hb0) (k_349 h hb0) (by decide) rfl rfl rfl (by decide) (by decide), (k_350 h hb0), (k_351 h hb0)⟩ (xpMV (wr := []) (wc := [(br, .inr (1, [.ref pl, .int z1, .int z2, .int z3])), (pl, .inl (cA 8, 19, .inr (.inr (.inr (.inr f)))))]) hb0 hS hz (va_P.sub hP [] rfl) (va_P.sub hP [0, 1] rfl) (va_D.sub (xDD (xDl hD0) hD hz hnR) [1, 2] rfl rfl) (va_recv hK hP (ci := 1) (q0 := 0) rfl rfl)) rfl rfl hl.1 rfl (lv_room (Nat.le_of_ble_eq_true rfl)) dX5_boxes_15 ⟨(Nat.le_of_ble_eq_true rfl), (Nat.le_of_ble_eq_true rfl)⟩) hP hD hS hA [0, 1] [] rfl rfl rfl (by decide) (fun r w1 H locs hΦ hP hD hS => ?_)
  obtain ⟨rfl, rfl⟩ := hΦ
  have hP : va_P (dC, dI) vwCl [(br, .inr (1, [.ref pl, .int 1, .int p2, .int (nI N)])), (pl, .inl (cA 8, 19, .inr (.inr (.inr (.inr (pz f N))))))] H := hP
  have hD : va_D A [(br, .inr (1, [.ref pl, .int 1, .int p2, .int (nI N)])), (pl, .inl (cA 8, 19, .inr (.inr (.inr (.inr (pz f N))))))] := hD
  refine lv_iload_n hx hb dX5_boxes_18 rfl (lv_at hl 0 rfl) ?_
  exact W.iret hx hb hr (fun t ht _ => ⟨(some (.int (nI N))), _, rfl, ⟨rfl, rfl⟩, by rw [ht]; exact hP, hD, hS.F ht⟩) (fun q z => hS.2.2 q z) dX5_boxes_19
set_option maxHeartbeats 4000000 in
set_option maxRecDepth 100000 in
theorem t_boxes_S {l : Launch} {s0 : State} {a0 : Array Value} {dC : Nat → ClassId} {dI : Nat → Nat → Nat} {cA : Nat → ClassId} (h : xC l s0 a0 dC dI cA) (b gr br : Nat) (wr ca : Int32) (ro pl : Nat) (z1 z2 z3 p1 p2 : Int32) (hc : p1 - p1 / 20 * 20 < 0) : xt_Met l yX5_boxes [Cond.code yX5_boxes cX5_boxes 4 (some .int)] ({ frames := 8, cells := 1, slots := 8, locals := 140 } : Room) (xP s0 (dC, dI) [.ref b, .int p1, .int p2] [(b, .inr (5, [.ref ro, .ref gr, .ref br, .int wr, .int ca]))]) "java/lang/NegativeArraySizeException" 1 8 := by
  refine xt_ofW (cc := cX5_boxes) (maxL := 4) (ret := (some .int)) (by decide) rfl ?_
  intro p e s m args below meth c s₁ B hml hout hv
  obtain ⟨rfl, hb0, hP⟩ := hv
  have hx := B.exec
  have hb := B.bytes
  have hr := B.returns
  have hown : s.vm.findClass RX5 = some m.cls := findClass_of_methodNamed B.named
  have hlocks := B.notSynchronized
  have hK := h.K hb0
  have hS : va_S (fun _ : Nat => False) s.heap s.heap [] := va_S.rf
  have hz : ∀ q : Nat, (fun _ : Nat => False) q → s0.heap.size ≤ q := fun _ z => z.elim
  have hl := lv_entry ([.ref b, .int p1, .int p2]) (n := 4) (Nat.le_of_ble_eq_true rfl)
  rw [lg_entry_eq]
  generalize (lg_sl ([.ref b, .int p1, .int p2]) ++ List.replicate (4 - (lg_sl ([.ref b, .int p1, .int p2])).length) Slot.unset).toArray = ls at hl ⊢
  have hl : lv_has ls 4 [(0, .ref b), (1, .int p1), (2, .int p2)] := hl
  refine lv_iload_n hx hb dX5_boxes_0 rfl (lv_at hl 1 rfl) ?_
  refine lv_bipush (v := 20) hx hb dX5_boxes_1 (by decide) ?_
  refine lv_irem hx hb dX5_boxes_3 (by decide) ?_
  refine lv_istore_n (lv' := [(3, .int (p1 - p1 / 20 * 20)), (0, .ref b), (1, .int p1), (2, .int p2)]) hx hb dX5_boxes_4 rfl hl (by decide) rfl (fun ls hl => ?_)
  refine lv_iload_n hx hb dX5_boxes_5 rfl (lv_at hl 0 rfl) ?_
  exact xt_callS (As := [.int (p1 - p1 / 20 * 20)]) (rest := []) ⟨hx, hb, hml, hown, xTs⟩ (t_needSize h _ hc) ⟨xB (n := 1) (k_286 h hb0) (k_1 h hb0) (k_284 h hb0) (by decide) rfl rfl rfl (by decide) (by decide), (k_285 h hb0)⟩ (xpS hb0 hS hz (va_P.sub hP [] rfl)) rfl rfl hl.1 rfl (lv_room (Nat.le_of_ble_eq_true rfl)) dX5_boxes_6 ⟨(Nat.le_of_ble_eq_true rfl), (Nat.le_of_ble_eq_true rfl)⟩ (fun q ce H1 h1 h2 h3 h4 h5 => xt_out hout hlocks h1 h2 h3 (Nat.le_of_ble_eq_true rfl) (Nat.le_of_ble_eq_true rfl))
set_option maxHeartbeats 4000000 in
set_option maxRecDepth 100000 in
theorem c_boxAt {l : Launch} {s0 : State} {a0 : Array Value} {dC : Nat → ClassId} {dI : Nat → Nat → Nat} {cA : Nat → ClassId} (h : xC l s0 a0 dC dI cA) (b gr br : Nat) (wr ca : Int32) (ro pl : Nat) (z1 z2 z3 p1 : Int32) (f : Nat → Option Nat) (a : Nat) (hm : z1 = 0 ∨ z1 = 1) (ht : ¬ z1 = 0) (h0 : ¬ p1 < 0) (h1 : p1 < z3) (hi : vp_in p1 19) (hf : f p1.toNatClampNeg = some a) : Met l yX5_boxAt [Cond.code yX5_boxAt cX5_boxAt 3 (some (.object "FaultBench$Box"))] ({ frames := 1, cells := 0, slots := 0, locals := 40 } : Room) (xP s0 (dC, dI) [.ref b, .int p1] [(b, .inr (5, [.ref ro, .ref gr, .ref br, .int wr, .int ca])), (br, .inr (1, [.ref pl, .int z1, .int z2, .int z3])), (pl, .inl (cA 8, 19, .inr (.inr (.inr (.inr f)))))]) (xR (some (.ref a))) 0 0 (fun _ => False) := by
  refine Met.ofW (cc := cX5_boxAt) (maxL := 3) (ret := (some (.object "FaultBench$Box"))) (by decide) rfl ?_
  intro p e s m args below meth c s₁ B hml hv
  obtain ⟨rfl, hb0, hP⟩ := hv
  have hx := B.exec
  have hb := B.bytes
  have hr := B.returns
  have hown : s.vm.findClass RX5 = some m.cls := findClass_of_methodNamed B.named
  have hlocks := B.notSynchronized
  have hK := h.K hb0
  have hS : va_S (fun _ : Nat => False) s.heap s.heap [] := va_S.rf
  have hz : ∀ q : Nat, (fun _ : Nat => False) q → s0.heap.size ≤ q := fun _ z => z.elim
  have hl := lv_entry ([.ref b, .int p1]) (n := 3) (Nat.le_of_ble_eq_true rfl)
  rw [lg_entry_eq]
  generalize (lg_sl ([.ref b, .int p1]) ++ List.replicate (3 - (lg_sl ([.ref b, .int p1])).length) Slot.unset).toArray = ls at hl ⊢
  have hl : lv_has ls 3 [(0, .ref b), (1, .int p1)] := hl
  refine lv_aload_n hx hb dX5_boxAt_0 rfl (lv_at hl 0 rfl) ?_
  refine va_get (D := (dC, dI)) (ci := 5) (v := .ref br) (C := RX5) (T := TX5) (N := 5) hx hb (ly_5 h hb0) (fun _ z => z) hown hK hP 0 rfl rfl 2 (by decide) (k_112 h hb0) (fun _ z => z) rfl dX5_boxAt_1 ?_
  refine xr_1 (va_runV (As := []) (rest := []) ⟨hx, hb, hml, hown, xTs⟩ (c_bisMade h br pl z1 z2 z3 hm) ⟨xB (n := 0) (k_364 h hb0) (k_4 h hb0) (k_361 h hb0) (by decide) rfl rfl rfl (by decide) (by decide), (k_362 h hb0), (k_363 h hb0)⟩ (xpV hb0 hS hz (va_P.sub hP [1] rfl) (va_recv hK hP (ci := 1) (q0 := 1) rfl rfl)) rfl rfl hl.1 rfl (lv_room (Nat.le_of_ble_eq_true rfl)) dX5_boxAt_4 ⟨(Nat.le_of_ble_eq_true rfl), (Nat.le_of_ble_eq_true rfl)⟩) ?_
  refine xr_0 (va_runS (As := [.int z1]) (rest := []) ⟨hx, hb, hml, hown, xTs⟩ (c_needThere h _ ht) ⟨xB (n := 1) (k_140 h hb0) (k_1 h hb0) (k_138 h hb0) (by decide) rfl rfl rfl (by decide) (by decide), (k_139 h hb0)⟩ (xpS hb0 hS hz (va_P.sub hP [] rfl)) rfl rfl hl.1 rfl (lv_room (Nat.le_of_ble_eq_true rfl)) dX5_boxAt_7 ⟨(Nat.le_of_ble_eq_true rfl), (Nat.le_of_ble_eq_true rfl)⟩) ?_
  refine lv_iload_n hx hb dX5_boxAt_10 rfl (lv_at hl 1 rfl) ?_
  refine lv_aload_n hx hb dX5_boxAt_11 rfl (lv_at hl 0 rfl) ?_
  refine va_get (D := (dC, dI)) (ci := 5) (v := .ref br) (C := RX5) (T := TX5) (N := 5) hx hb (ly_5 h hb0) (fun _ z => z) hown hK hP 0 rfl rfl 2 (by decide) (k_112 h hb0) (fun _ z => z) rfl dX5_boxAt_12 ?_
  refine xr_1 (va_runV (As := []) (rest := [.int p1]) ⟨hx, hb, hml, hown, xTs⟩ (c_bplaceCount h br pl z1 z2 z3) ⟨xB (n := 0) (k_368 h hb0) (k_4 h hb0) (k_365 h hb0) (by decide) rfl rfl rfl (by decide) (by decide), (k_366 h hb0), (k_367 h hb0)⟩ (xpV hb0 hS hz (va_P.sub hP [1] rfl) (va_recv hK hP (ci := 1) (q0 := 1) rfl rfl)) rfl rfl hl.1 rfl (lv_room (Nat.le_of_ble_eq_true rfl)) dX5_boxAt_15 ⟨(Nat.le_of_ble_eq_true rfl), (Nat.le_of_ble_eq_true rfl)⟩) ?_
  refine xr_0 (va_runS (As := [.int p1, .int z3]) (rest := []) ⟨hx, hb, hml, hown, xTs⟩ (c_needPlace h _ _ h0 h1) ⟨xB (n := 2) (k_232 h hb0) (k_1 h hb0) (k_230 h hb0) (by decide) rfl rfl rfl (by decide) (by decide), (k_231 h hb0)⟩ (xpS hb0 hS hz (va_P.sub hP [] rfl)) rfl rfl hl.1 rfl (lv_room (Nat.le_of_ble_eq_true rfl)) dX5_boxAt_18 ⟨(Nat.le_of_ble_eq_true rfl), (Nat.le_of_ble_eq_true rfl)⟩) ?_
  refine lv_aload_n hx hb dX5_boxAt_21 rfl (lv_at hl 0 rfl) ?_
  refine va_get (D := (dC, dI)) (ci := 5) (v := .ref br) (C := RX5) (T := TX5) (N := 5) hx hb (ly_5 h hb0) (fun _ z => z) hown hK hP 0 rfl rfl 2 (by decide) (k_112 h hb0) (fun _ z => z) rfl dX5_boxAt_22 ?_
  refine lv_iload_n hx hb dX5_boxAt_25 rfl (lv_at hl 1 rfl) ?_
  refine xr_1 (va_runV (As := [.int p1]) (rest := []) ⟨hx, hb, hml, hown, xTs⟩ (c_boxAtPlace h br pl z1 z2 z3 f p1 hi) ⟨xB (n := 1) (k_432 h hb0) (k_4 h hb0) (k_429 h hb0) (by decide) rfl rfl rfl (by decide) (by decide), (k_430 h hb0), (k_431 h hb0)⟩ (xpV hb0 hS hz (va_P.sub hP [1, 2] rfl) (va_recv hK hP (ci := 1) (q0 := 1) rfl rfl)) rfl rfl hl.1 rfl (lv_room (Nat.le_of_ble_eq_true rfl)) dX5_boxAt_26 ⟨(Nat.le_of_ble_eq_true rfl), (Nat.le_of_ble_eq_true rfl)⟩) ?_
  rw [hf]
  show W _ _ _ _ _ _ _ _ _ _ _ _ _ _ _ (F0 m 29 ls [.ref a])
  refine lv_astore_n (lv' := [(2, .ref a), (0, .ref b), (1, .int p1)]) hx hb dX5_boxAt_29 rfl hl (by decide) rfl (fun ls hl => ?_)
  refine lv_aload_n hx hb dX5_boxAt_30 rfl (lv_at hl 0 rfl) ?_
  refine lv_ifnonnull (tgt := 44) hx hb dX5_boxAt_31 (by decide) ?_
  refine lv_aload_n hx hb dX5_boxAt_44 rfl (lv_at hl 0 rfl) ?_
  exact W.aret hx hb hr (Or.inl ⟨_, rfl⟩) (Or.inr ⟨_, rfl⟩) (fun t ht _ => ⟨rfl, ht⟩) (fun q z => nomatch z) dX5_boxAt_45
set_option maxHeartbeats 4000000 in
set_option maxRecDepth 100000 in
theorem t_boxAt_N {l : Launch} {s0 : State} {a0 : Array Value} {dC : Nat → ClassId} {dI : Nat → Nat → Nat} {cA : Nat → ClassId} (h : xC l s0 a0 dC dI cA) (b gr br : Nat) (wr ca : Int32) (ro pl : Nat) (z1 z2 z3 p1 : Int32) (f : Nat → Option Nat) (hm : z1 = 0 ∨ z1 = 1) (ht : z1 = 0) : xt_Met l yX5_boxAt [Cond.code yX5_boxAt cX5_boxAt 3 (some (.object "FaultBench$Box"))] ({ frames := 8, cells := 1, slots := 8, locals := 140 } : Room) (xP s0 (dC, dI) [.ref b, .int p1] [(b, .inr (5, [.ref ro, .ref gr, .ref br, .int wr, .int ca])), (br, .inr (1, [.ref pl, .int z1, .int z2, .int z3])), (pl, .inl (cA 8, 19, .inr (.inr (.inr (.inr f)))))]) "java/lang/NullPointerException" 1 8 := by
  refine xt_ofW (cc := cX5_boxAt) (maxL := 3) (ret := (some (.object "FaultBench$Box"))) (by decide) rfl ?_
  intro p e s m args below meth c s₁ B hml hout hv
  obtain ⟨rfl, hb0, hP⟩ := hv
  have hx := B.exec
  have hb := B.bytes
  have hr := B.returns
  have hown : s.vm.findClass RX5 = some m.cls := findClass_of_methodNamed B.named
  have hlocks := B.notSynchronized
  have hK := h.K hb0
  have hS : va_S (fun _ : Nat => False) s.heap s.heap [] := va_S.rf
  have hz : ∀ q : Nat, (fun _ : Nat => False) q → s0.heap.size ≤ q := fun _ z => z.elim
  have hl := lv_entry ([.ref b, .int p1]) (n := 3) (Nat.le_of_ble_eq_true rfl)
  rw [lg_entry_eq]
  generalize (lg_sl ([.ref b, .int p1]) ++ List.replicate (3 - (lg_sl ([.ref b, .int p1])).length) Slot.unset).toArray = ls at hl ⊢
  have hl : lv_has ls 3 [(0, .ref b), (1, .int p1)] := hl
  refine lv_aload_n hx hb dX5_boxAt_0 rfl (lv_at hl 0 rfl) ?_
  refine va_get (D := (dC, dI)) (ci := 5) (v := .ref br) (C := RX5) (T := TX5) (N := 5) hx hb (ly_5 h hb0) (fun _ z => z) hown hK hP 0 rfl rfl 2 (by decide) (k_112 h hb0) (fun _ z => z) rfl dX5_boxAt_1 ?_
  refine xr_1 (va_runV (As := []) (rest := []) ⟨hx, hb, hml, hown, xTs⟩ (c_bisMade h br pl z1 z2 z3 hm) ⟨xB (n := 0) (k_364 h hb0) (k_4 h hb0) (k_361 h hb0) (by decide) rfl rfl rfl (by decide) (by decide), (k_362 h hb0), (k_363 h hb0)⟩ (xpV hb0 hS hz (va_P.sub hP [1] rfl) (va_recv hK hP (ci := 1) (q0 := 1) rfl rfl)) rfl rfl hl.1 rfl (lv_room (Nat.le_of_ble_eq_true rfl)) dX5_boxAt_4 ⟨(Nat.le_of_ble_eq_true rfl), (Nat.le_of_ble_eq_true rfl)⟩) ?_
  exact xt_callS (As := [.int z1]) (rest := []) ⟨hx, hb, hml, hown, xTs⟩ (t_needThere h _ ht) ⟨xB (n := 1) (k_140 h hb0) (k_1 h hb0) (k_138 h hb0) (by decide) rfl rfl rfl (by decide) (by decide), (k_139 h hb0)⟩ (xpS hb0 hS hz (va_P.sub hP [] rfl)) rfl rfl hl.1 rfl (lv_room (Nat.le_of_ble_eq_true rfl)) dX5_boxAt_7 ⟨(Nat.le_of_ble_eq_true rfl), (Nat.le_of_ble_eq_true rfl)⟩ (fun q ce H1 h1 h2 h3 h4 h5 => xt_out hout hlocks h1 h2 h3 (Nat.le_of_ble_eq_true rfl) (Nat.le_of_ble_eq_true rfl))
set_option maxHeartbeats 4000000 in
set_option maxRecDepth 100000 in
theorem t_boxAt_A {l : Launch} {s0 : State} {a0 : Array Value} {dC : Nat → ClassId} {dI : Nat → Nat → Nat} {cA : Nat → ClassId} (h : xC l s0 a0 dC dI cA) (b gr br : Nat) (wr ca : Int32) (ro pl : Nat) (z1 z2 z3 p1 : Int32) (f : Nat → Option Nat) (hm : z1 = 0 ∨ z1 = 1) (ht : ¬ z1 = 0) (hc : p1 < 0 ∨ ¬ p1 < z3) : xt_Met l yX5_boxAt [Cond.code yX5_boxAt cX5_boxAt 3 (some (.object "FaultBench$Box"))] ({ frames := 8, cells := 1, slots := 8, locals := 140 } : Room) (xP s0 (dC, dI) [.ref b, .int p1] [(b, .inr (5, [.ref ro, .ref gr, .ref br, .int wr, .int ca])), (br, .inr (1, [.ref pl, .int z1, .int z2, .int z3])), (pl, .inl (cA 8, 19, .inr (.inr (.inr (.inr f)))))]) "java/lang/ArrayIndexOutOfBoundsException" 1 8 := by
  refine xt_ofW (cc := cX5_boxAt) (maxL := 3) (ret := (some (.object "FaultBench$Box"))) (by decide) rfl ?_
  intro p e s m args below meth c s₁ B hml hout hv
  obtain ⟨rfl, hb0, hP⟩ := hv
  have hx := B.exec
  have hb := B.bytes
  have hr := B.returns
  have hown : s.vm.findClass RX5 = some m.cls := findClass_of_methodNamed B.named
  have hlocks := B.notSynchronized
  have hK := h.K hb0
  have hS : va_S (fun _ : Nat => False) s.heap s.heap [] := va_S.rf
  have hz : ∀ q : Nat, (fun _ : Nat => False) q → s0.heap.size ≤ q := fun _ z => z.elim
  have hl := lv_entry ([.ref b, .int p1]) (n := 3) (Nat.le_of_ble_eq_true rfl)
  rw [lg_entry_eq]
  generalize (lg_sl ([.ref b, .int p1]) ++ List.replicate (3 - (lg_sl ([.ref b, .int p1])).length) Slot.unset).toArray = ls at hl ⊢
  have hl : lv_has ls 3 [(0, .ref b), (1, .int p1)] := hl
  refine lv_aload_n hx hb dX5_boxAt_0 rfl (lv_at hl 0 rfl) ?_
  refine va_get (D := (dC, dI)) (ci := 5) (v := .ref br) (C := RX5) (T := TX5) (N := 5) hx hb (ly_5 h hb0) (fun _ z => z) hown hK hP 0 rfl rfl 2 (by decide) (k_112 h hb0) (fun _ z => z) rfl dX5_boxAt_1 ?_
  refine xr_1 (va_runV (As := []) (rest := []) ⟨hx, hb, hml, hown, xTs⟩ (c_bisMade h br pl z1 z2 z3 hm) ⟨xB (n := 0) (k_364 h hb0) (k_4 h hb0) (k_361 h hb0) (by decide) rfl rfl rfl (by decide) (by decide), (k_362 h hb0), (k_363 h hb0)⟩ (xpV hb0 hS hz (va_P.sub hP [1] rfl) (va_recv hK hP (ci := 1) (q0 := 1) rfl rfl)) rfl rfl hl.1 rfl (lv_room (Nat.le_of_ble_eq_true rfl)) dX5_boxAt_4 ⟨(Nat.le_of_ble_eq_true rfl), (Nat.le_of_ble_eq_true rfl)⟩) ?_
  refine xr_0 (va_runS (As := [.int z1]) (rest := []) ⟨hx, hb, hml, hown, xTs⟩ (c_needThere h _ ht) ⟨xB (n := 1) (k_140 h hb0) (k_1 h hb0) (k_138 h hb0) (by decide) rfl rfl rfl (by decide) (by decide), (k_139 h hb0)⟩ (xpS hb0 hS hz (va_P.sub hP [] rfl)) rfl rfl hl.1 rfl (lv_room (Nat.le_of_ble_eq_true rfl)) dX5_boxAt_7 ⟨(Nat.le_of_ble_eq_true rfl), (Nat.le_of_ble_eq_true rfl)⟩) ?_
  refine lv_iload_n hx hb dX5_boxAt_10 rfl (lv_at hl 1 rfl) ?_
  refine lv_aload_n hx hb dX5_boxAt_11 rfl (lv_at hl 0 rfl) ?_
  refine va_get (D := (dC, dI)) (ci := 5) (v := .ref br) (C := RX5) (T := TX5) (N := 5) hx hb (ly_5 h hb0) (fun _ z => z) hown hK hP 0 rfl rfl 2 (by decide) (k_112 h hb0) (fun _ z => z) rfl dX5_boxAt_12 ?_
  refine xr_1 (va_runV (As := []) (rest := [.int p1]) ⟨hx, hb, hml, hown, xTs⟩ (c_bplaceCount h br pl z1 z2 z3) ⟨xB (n := 0) (k_368 h hb0) (k_4 h hb0) (k_365 h hb0) (by decide) rfl rfl rfl (by decide) (by decide), (k_366 h hb0), (k_367 h hb0)⟩ (xpV hb0 hS hz (va_P.sub hP [1] rfl) (va_recv hK hP (ci := 1) (q0 := 1) rfl rfl)) rfl rfl hl.1 rfl (lv_room (Nat.le_of_ble_eq_true rfl)) dX5_boxAt_15 ⟨(Nat.le_of_ble_eq_true rfl), (Nat.le_of_ble_eq_true rfl)⟩) ?_
  exact xt_callS (As := [.int p1, .int z3]) (rest := []) ⟨hx, hb, hml, hown, xTs⟩ (t_needPlace h _ _ hc) ⟨xB (n := 2) (k_232 h hb0) (k_1 h hb0) (k_230 h hb0) (by decide) rfl rfl rfl (by decide) (by decide), (k_231 h hb0)⟩ (xpS hb0 hS hz (va_P.sub hP [] rfl)) rfl rfl hl.1 rfl (lv_room (Nat.le_of_ble_eq_true rfl)) dX5_boxAt_18 ⟨(Nat.le_of_ble_eq_true rfl), (Nat.le_of_ble_eq_true rfl)⟩ (fun q ce H1 h1 h2 h3 h4 h5 => xt_out hout hlocks h1 h2 h3 (Nat.le_of_ble_eq_true rfl) (Nat.le_of_ble_eq_true rfl))
set_option maxHeartbeats 4000000 in
set_option maxRecDepth 100000 in
theorem t_boxAt_2 {l : Launch} {s0 : State} {a0 : Array Value} {dC : Nat → ClassId} {dI : Nat → Nat → Nat} {cA : Nat → ClassId} (h : xC l s0 a0 dC dI cA) (b gr br : Nat) (wr ca : Int32) (ro pl : Nat) (z1 z2 z3 p1 : Int32) (f : Nat → Option Nat) (hm : z1 = 0 ∨ z1 = 1) (ht : ¬ z1 = 0) (h0 : ¬ p1 < 0) (h1 : p1 < z3) (hi : vp_in p1 19) (hf : f p1.toNatClampNeg = none) : xt_Met l yX5_boxAt [Cond.code yX5_boxAt cX5_boxAt 3 (some (.object "FaultBench$Box"))] ({ frames := 8, cells := 1, slots := 8, locals := 140 } : Room) (xP s0 (dC, dI) [.ref b, .int p1] [(b, .inr (5, [.ref ro, .ref gr, .ref br, .int wr, .int ca])), (br, .inr (1, [.ref pl, .int z1, .int z2, .int z3])), (pl, .inl (cA 8, 19, .inr (.inr (.inr (.inr f)))))]) "java/lang/NullPointerException" 1 8 := by
  refine xt_ofW (cc := cX5_boxAt) (maxL := 3) (ret := (some (.object "FaultBench$Box"))) (by decide) rfl ?_
  intro p e s m args below meth c s₁ B hml hout hv
  obtain ⟨rfl, hb0, hP⟩ := hv
  have hx := B.exec
  have hb := B.bytes
  have hr := B.returns
  have hown : s.vm.findClass RX5 = some m.cls := findClass_of_methodNamed B.named
  have hlocks := B.notSynchronized
  have hK := h.K hb0
  have hS : va_S (fun _ : Nat => False) s.heap s.heap [] := va_S.rf
  have hz : ∀ q : Nat, (fun _ : Nat => False) q → s0.heap.size ≤ q := fun _ z => z.elim
  have hl := lv_entry ([.ref b, .int p1]) (n := 3) (Nat.le_of_ble_eq_true rfl)
  rw [lg_entry_eq]
  generalize (lg_sl ([.ref b, .int p1]) ++ List.replicate (3 - (lg_sl ([.ref b, .int p1])).length) Slot.unset).toArray = ls at hl ⊢
  have hl : lv_has ls 3 [(0, .ref b), (1, .int p1)] := hl
  refine lv_aload_n hx hb dX5_boxAt_0 rfl (lv_at hl 0 rfl) ?_
  refine va_get (D := (dC, dI)) (ci := 5) (v := .ref br) (C := RX5) (T := TX5) (N := 5) hx hb (ly_5 h hb0) (fun _ z => z) hown hK hP 0 rfl rfl 2 (by decide) (k_112 h hb0) (fun _ z => z) rfl dX5_boxAt_1 ?_
  refine xr_1 (va_runV (As := []) (rest := []) ⟨hx, hb, hml, hown, xTs⟩ (c_bisMade h br pl z1 z2 z3 hm) ⟨xB (n := 0) (k_364 h hb0) (k_4 h hb0) (k_361 h hb0) (by decide) rfl rfl rfl (by decide) (by decide), (k_362 h hb0), (k_363 h hb0)⟩ (xpV hb0 hS hz (va_P.sub hP [1] rfl) (va_recv hK hP (ci := 1) (q0 := 1) rfl rfl)) rfl rfl hl.1 rfl (lv_room (Nat.le_of_ble_eq_true rfl)) dX5_boxAt_4 ⟨(Nat.le_of_ble_eq_true rfl), (Nat.le_of_ble_eq_true rfl)⟩) ?_
  refine xr_0 (va_runS (As := [.int z1]) (rest := []) ⟨hx, hb, hml, hown, xTs⟩ (c_needThere h _ ht) ⟨xB (n := 1) (k_140 h hb0) (k_1 h hb0) (k_138 h hb0) (by decide) rfl rfl rfl (by decide) (by decide), (k_139 h hb0)⟩ (xpS hb0 hS hz (va_P.sub hP [] rfl)) rfl rfl hl.1 rfl (lv_room (Nat.le_of_ble_eq_true rfl)) dX5_boxAt_7 ⟨(Nat.le_of_ble_eq_true rfl), (Nat.le_of_ble_eq_true rfl)⟩) ?_
  refine lv_iload_n hx hb dX5_boxAt_10 rfl (lv_at hl 1 rfl) ?_
  refine lv_aload_n hx hb dX5_boxAt_11 rfl (lv_at hl 0 rfl) ?_
  refine va_get (D := (dC, dI)) (ci := 5) (v := .ref br) (C := RX5) (T := TX5) (N := 5) hx hb (ly_5 h hb0) (fun _ z => z) hown hK hP 0 rfl rfl 2 (by decide) (k_112 h hb0) (fun _ z => z) rfl dX5_boxAt_12 ?_
  refine xr_1 (va_runV (As := []) (rest := [.int p1]) ⟨hx, hb, hml, hown, xTs⟩ (c_bplaceCount h br pl z1 z2 z3) ⟨xB (n := 0) (k_368 h hb0) (k_4 h hb0) (k_365 h hb0) (by decide) rfl rfl rfl (by decide) (by decide), (k_366 h hb0), (k_367 h hb0)⟩ (xpV hb0 hS hz (va_P.sub hP [1] rfl) (va_recv hK hP (ci := 1) (q0 := 1) rfl rfl)) rfl rfl hl.1 rfl (lv_room (Nat.le_of_ble_eq_true rfl)) dX5_boxAt_15 ⟨(Nat.le_of_ble_eq_true rfl), (Nat.le_of_ble_eq_true rfl)⟩) ?_
  refine xr_0 (va_runS (As := [.int p1, .int z3]) (rest := []) ⟨hx, hb, hml, hown, xTs⟩ (c_needPlace h _ _ h0 h1) ⟨xB (n := 2) (k_232 h hb0) (k_1 h hb0) (k_230 h hb0) (by decide) rfl rfl rfl (by decide) (by decide), (k_231 h hb0)⟩ (xpS hb0 hS hz (va_P.sub hP [] rfl)) rfl rfl hl.1 rfl (lv_room (Nat.le_of_ble_eq_true rfl)) dX5_boxAt_18 ⟨(Nat.le_of_ble_eq_true rfl), (Nat.le_of_ble_eq_true rfl)⟩) ?_
  refine lv_aload_n hx hb dX5_boxAt_21 rfl (lv_at hl 0 rfl) ?_
  refine va_get (D := (dC, dI)) (ci := 5) (v := .ref br) (C := RX5) (T := TX5) (N := 5) hx hb (ly_5 h hb0) (fun _ z => z) hown hK hP 0 rfl rfl 2 (by decide) (k_112 h hb0) (fun _ z => z) rfl dX5_boxAt_22 ?_
  refine lv_iload_n hx hb dX5_boxAt_25 rfl (lv_at hl 1 rfl) ?_
  refine xr_1 (va_runV (As := [.int p1]) (rest := []) ⟨hx, hb, hml, hown, xTs⟩ (c_boxAtPlace h br pl z1 z2 z3 f p1 hi) ⟨xB (n := 1) (k_432 h hb0) (k_4 h hb0) (k_429 h hb0) (by decide) rfl rfl rfl (by decide) (by decide), (k_430 h hb0), (k_431 h hb0)⟩ (xpV hb0 hS hz (va_P.sub hP [1, 2] rfl) (va_recv hK hP (ci := 1) (q0 := 1) rfl rfl)) rfl rfl hl.1 rfl (lv_room (Nat.le_of_ble_eq_true rfl)) dX5_boxAt_26 ⟨(Nat.le_of_ble_eq_true rfl), (Nat.le_of_ble_eq_true rfl)⟩) ?_
  rw [hf]
  show W _ _ _ _ _ _ _ _ _ _ _ _ _ _ _ (F0 m 29 ls [.null])
  refine lv_astore_nN (lv' := [(2, .null), (0, .ref b), (1, .int p1)]) hx hb dX5_boxAt_29 rfl hl (by decide) rfl (fun ls hl => ?_)
  refine lv_aload_nN hx hb dX5_boxAt_30 rfl (lv_at hl 0 rfl) ?_
  refine lv_ifnonnullN hx hb dX5_boxAt_31 ?_
  exact xt_throwN (own := RX5) hx hb h.1 hown (k_141 h hb0) (k_9 h hb0) (k_433 h hb0) (xo_140 h hb0) (hl.1.trans hml.symm) hout hlocks dX5_boxAt_34 dX5_boxAt_37 dX5_boxAt_38 dX5_boxAt_40 dX5_boxAt_43 (by decide) (by decide) (by decide) (by decide) (by decide) (by decide)
set_option maxHeartbeats 4000000 in
set_option maxRecDepth 100000 in
theorem t_value_N {l : Launch} {s0 : State} {a0 : Array Value} {dC : Nat → ClassId} {dI : Nat → Nat → Nat} {cA : Nat → ClassId} (h : xC l s0 a0 dC dI cA) (b gr br : Nat) (wr ca : Int32) (ro pl : Nat) (z1 z2 z3 p1 : Int32) (f : Nat → Option Nat) (hm : z1 = 0 ∨ z1 = 1) (ht : z1 = 0) : xt_Met l yX5_value [Cond.code yX5_value cX5_value 2 (some .int)] ({ frames := 9, cells := 1, slots := 8, locals := 170 } : Room) (xP s0 (dC, dI) [.ref b, .int p1] [(b, .inr (5, [.ref ro, .ref gr, .ref br, .int wr, .int ca])), (br, .inr (1, [.ref pl, .int z1, .int z2, .int z3])), (pl, .inl (cA 8, 19, .inr (.inr (.inr (.inr f)))))]) "java/lang/NullPointerException" 1 8 := by
  refine xt_ofW (cc := cX5_value) (maxL := 2) (ret := (some .int)) (by decide) rfl ?_
  intro p e s m args below meth c s₁ B hml hout hv
  obtain ⟨rfl, hb0, hP⟩ := hv
  have hx := B.exec
  have hb := B.bytes
  have hr := B.returns
  have hown : s.vm.findClass RX5 = some m.cls := findClass_of_methodNamed B.named
  have hlocks := B.notSynchronized
  have hK := h.K hb0
  have hS : va_S (fun _ : Nat => False) s.heap s.heap [] := va_S.rf
  have hz : ∀ q : Nat, (fun _ : Nat => False) q → s0.heap.size ≤ q := fun _ z => z.elim
  have hl := lv_entry ([.ref b, .int p1]) (n := 2) (Nat.le_of_ble_eq_true rfl)
  rw [lg_entry_eq]
  generalize (lg_sl ([.ref b, .int p1]) ++ List.replicate (2 - (lg_sl ([.ref b, .int p1])).length) Slot.unset).toArray = ls at hl ⊢
  have hl : lv_has ls 2 [(0, .ref b), (1, .int p1)] := hl
  refine lv_aload_n hx hb dX5_value_0 rfl (lv_at hl 0 rfl) ?_
  refine lv_iload_n hx hb dX5_value_1 rfl (lv_at hl 1 rfl) ?_
  exact xt_callV (As := [.int p1]) (rest := []) ⟨hx, hb, hml, hown, xTs⟩ (t_boxAt_N h b gr br wr ca ro pl z1 z2 z3 p1 f hm ht) ⟨xB (n := 1) (k_428 h hb0) (k_1 h hb0) (k_425 h hb0) (by decide) rfl rfl rfl (by decide) (by decide), (k_427 h hb0), (ks_2 h hb0)⟩ (xpV hb0 hS hz (va_P.sub hP [0, 1, 2] rfl) (va_recv hK hP (ci := 5) (q0 := 0) rfl rfl)) rfl rfl hl.1 rfl (lv_room (Nat.le_of_ble_eq_true rfl)) dX5_value_2 ⟨(Nat.le_of_ble_eq_true rfl), (Nat.le_of_ble_eq_true rfl)⟩ (fun q ce H1 h1 h2 h3 h4 h5 => xt_out hout hlocks h1 h2 h3 (Nat.le_of_ble_eq_true rfl) (Nat.le_of_ble_eq_true rfl))
set_option maxHeartbeats 4000000 in
set_option maxRecDepth 100000 in
theorem t_value_A {l : Launch} {s0 : State} {a0 : Array Value} {dC : Nat → ClassId} {dI : Nat → Nat → Nat} {cA : Nat → ClassId} (h : xC l s0 a0 dC dI cA) (b gr br : Nat) (wr ca : Int32) (ro pl : Nat) (z1 z2 z3 p1 : Int32) (f : Nat → Option Nat) (hm : z1 = 0 ∨ z1 = 1) (ht : ¬ z1 = 0) (hc : p1 < 0 ∨ ¬ p1 < z3) : xt_Met l yX5_value [Cond.code yX5_value cX5_value 2 (some .int)] ({ frames := 9, cells := 1, slots := 8, locals := 170 } : Room) (xP s0 (dC, dI) [.ref b, .int p1] [(b, .inr (5, [.ref ro, .ref gr, .ref br, .int wr, .int ca])), (br, .inr (1, [.ref pl, .int z1, .int z2, .int z3])), (pl, .inl (cA 8, 19, .inr (.inr (.inr (.inr f)))))]) "java/lang/ArrayIndexOutOfBoundsException" 1 8 := by
  refine xt_ofW (cc := cX5_value) (maxL := 2) (ret := (some .int)) (by decide) rfl ?_
  intro p e s m args below meth c s₁ B hml hout hv
  obtain ⟨rfl, hb0, hP⟩ := hv
  have hx := B.exec
  have hb := B.bytes
  have hr := B.returns
  have hown : s.vm.findClass RX5 = some m.cls := findClass_of_methodNamed B.named
  have hlocks := B.notSynchronized
  have hK := h.K hb0
  have hS : va_S (fun _ : Nat => False) s.heap s.heap [] := va_S.rf
  have hz : ∀ q : Nat, (fun _ : Nat => False) q → s0.heap.size ≤ q := fun _ z => z.elim
  have hl := lv_entry ([.ref b, .int p1]) (n := 2) (Nat.le_of_ble_eq_true rfl)
  rw [lg_entry_eq]
  generalize (lg_sl ([.ref b, .int p1]) ++ List.replicate (2 - (lg_sl ([.ref b, .int p1])).length) Slot.unset).toArray = ls at hl ⊢
  have hl : lv_has ls 2 [(0, .ref b), (1, .int p1)] := hl
  refine lv_aload_n hx hb dX5_value_0 rfl (lv_at hl 0 rfl) ?_
  refine lv_iload_n hx hb dX5_value_1 rfl (lv_at hl 1 rfl) ?_
  exact xt_callV (As := [.int p1]) (rest := []) ⟨hx, hb, hml, hown, xTs⟩ (t_boxAt_A h b gr br wr ca ro pl z1 z2 z3 p1 f hm ht hc) ⟨xB (n := 1) (k_428 h hb0) (k_1 h hb0) (k_425 h hb0) (by decide) rfl rfl rfl (by decide) (by decide), (k_427 h hb0), (ks_2 h hb0)⟩ (xpV hb0 hS hz (va_P.sub hP [0, 1, 2] rfl) (va_recv hK hP (ci := 5) (q0 := 0) rfl rfl)) rfl rfl hl.1 rfl (lv_room (Nat.le_of_ble_eq_true rfl)) dX5_value_2 ⟨(Nat.le_of_ble_eq_true rfl), (Nat.le_of_ble_eq_true rfl)⟩ (fun q ce H1 h1 h2 h3 h4 h5 => xt_out hout hlocks h1 h2 h3 (Nat.le_of_ble_eq_true rfl) (Nat.le_of_ble_eq_true rfl))
set_option maxHeartbeats 4000000 in
set_option maxRecDepth 100000 in
theorem t_value_2 {l : Launch} {s0 : State} {a0 : Array Value} {dC : Nat → ClassId} {dI : Nat → Nat → Nat} {cA : Nat → ClassId} (h : xC l s0 a0 dC dI cA) (b gr br : Nat) (wr ca : Int32) (ro pl : Nat) (z1 z2 z3 p1 : Int32) (f : Nat → Option Nat) (hm : z1 = 0 ∨ z1 = 1) (ht : ¬ z1 = 0) (h0 : ¬ p1 < 0) (h1 : p1 < z3) (hi : vp_in p1 19) (hf : f p1.toNatClampNeg = none) : xt_Met l yX5_value [Cond.code yX5_value cX5_value 2 (some .int)] ({ frames := 9, cells := 1, slots := 8, locals := 170 } : Room) (xP s0 (dC, dI) [.ref b, .int p1] [(b, .inr (5, [.ref ro, .ref gr, .ref br, .int wr, .int ca])), (br, .inr (1, [.ref pl, .int z1, .int z2, .int z3])), (pl, .inl (cA 8, 19, .inr (.inr (.inr (.inr f)))))]) "java/lang/NullPointerException" 1 8 := by
  refine xt_ofW (cc := cX5_value) (maxL := 2) (ret := (some .int)) (by decide) rfl ?_
  intro p e s m args below meth c s₁ B hml hout hv
  obtain ⟨rfl, hb0, hP⟩ := hv
  have hx := B.exec
  have hb := B.bytes
  have hr := B.returns
  have hown : s.vm.findClass RX5 = some m.cls := findClass_of_methodNamed B.named
  have hlocks := B.notSynchronized
  have hK := h.K hb0
  have hS : va_S (fun _ : Nat => False) s.heap s.heap [] := va_S.rf
  have hz : ∀ q : Nat, (fun _ : Nat => False) q → s0.heap.size ≤ q := fun _ z => z.elim
  have hl := lv_entry ([.ref b, .int p1]) (n := 2) (Nat.le_of_ble_eq_true rfl)
  rw [lg_entry_eq]
  generalize (lg_sl ([.ref b, .int p1]) ++ List.replicate (2 - (lg_sl ([.ref b, .int p1])).length) Slot.unset).toArray = ls at hl ⊢
  have hl : lv_has ls 2 [(0, .ref b), (1, .int p1)] := hl
  refine lv_aload_n hx hb dX5_value_0 rfl (lv_at hl 0 rfl) ?_
  refine lv_iload_n hx hb dX5_value_1 rfl (lv_at hl 1 rfl) ?_
  exact xt_callV (As := [.int p1]) (rest := []) ⟨hx, hb, hml, hown, xTs⟩ (t_boxAt_2 h b gr br wr ca ro pl z1 z2 z3 p1 f hm ht h0 h1 hi hf) ⟨xB (n := 1) (k_428 h hb0) (k_1 h hb0) (k_425 h hb0) (by decide) rfl rfl rfl (by decide) (by decide), (k_427 h hb0), (ks_2 h hb0)⟩ (xpV hb0 hS hz (va_P.sub hP [0, 1, 2] rfl) (va_recv hK hP (ci := 5) (q0 := 0) rfl rfl)) rfl rfl hl.1 rfl (lv_room (Nat.le_of_ble_eq_true rfl)) dX5_value_2 ⟨(Nat.le_of_ble_eq_true rfl), (Nat.le_of_ble_eq_true rfl)⟩ (fun q ce H1 h1 h2 h3 h4 h5 => xt_out hout hlocks h1 h2 h3 (Nat.le_of_ble_eq_true rfl) (Nat.le_of_ble_eq_true rfl))
set_option maxHeartbeats 4000000 in
set_option maxRecDepth 100000 in
theorem c_value_0 {l : Launch} {s0 : State} {a0 : Array Value} {dC : Nat → ClassId} {dI : Nat → Nat → Nat} {cA : Nat → ClassId} (h : xC l s0 a0 dC dI cA) (b gr br : Nat) (wr ca : Int32) (ro pl : Nat) (z1 z2 z3 p1 : Int32) (f : Nat → Option Nat) (a : Nat) (v : Int32) (hm : z1 = 0 ∨ z1 = 1) (ht : ¬ z1 = 0) (h0 : ¬ p1 < 0) (h1 : p1 < z3) (hi : vp_in p1 19) (hf : f p1.toNatClampNeg = some a) : Met l yX5_value [Cond.code yX5_value cX5_value 2 (some .int)] ({ frames := 2, cells := 0, slots := 0, locals := 80 } : Room) (xP s0 (dC, dI) [.ref b, .int p1] [(b, .inr (5, [.ref ro, .ref gr, .ref br, .int wr, .int ca])), (br, .inr (1, [.ref pl, .int z1, .int z2, .int z3])), (pl, .inl (cA 8, 19, .inr (.inr (.inr (.inr f))))), (a, .inr (0, [.int v]))]) (xR (some (.int v))) 0 0 (fun _ => False) := by
  refine Met.ofW (cc := cX5_value) (maxL := 2) (ret := (some .int)) (by decide) rfl ?_
  intro p e s m args below meth c s₁ B hml hv
  obtain ⟨rfl, hb0, hP⟩ := hv
  have hx := B.exec
  have hb := B.bytes
  have hr := B.returns
  have hown : s.vm.findClass RX5 = some m.cls := findClass_of_methodNamed B.named
  have hlocks := B.notSynchronized
  have hK := h.K hb0
  have hS : va_S (fun _ : Nat => False) s.heap s.heap [] := va_S.rf
  have hz : ∀ q : Nat, (fun _ : Nat => False) q → s0.heap.size ≤ q := fun _ z => z.elim
  have hl := lv_entry ([.ref b, .int p1]) (n := 2) (Nat.le_of_ble_eq_true rfl)
  rw [lg_entry_eq]
  generalize (lg_sl ([.ref b, .int p1]) ++ List.replicate (2 - (lg_sl ([.ref b, .int p1])).length) Slot.unset).toArray = ls at hl ⊢
  have hl : lv_has ls 2 [(0, .ref b), (1, .int p1)] := hl
  refine lv_aload_n hx hb dX5_value_0 rfl (lv_at hl 0 rfl) ?_
  refine lv_iload_n hx hb dX5_value_1 rfl (lv_at hl 1 rfl) ?_
  refine xr_1 (va_runV (As := [.int p1]) (rest := []) ⟨hx, hb, hml, hown, xTs⟩ (c_boxAt h b gr br wr ca ro pl z1 z2 z3 p1 f a hm ht h0 h1 hi hf) ⟨xB (n := 1) (k_428 h hb0) (k_1 h hb0) (k_425 h hb0) (by decide) rfl rfl rfl (by decide) (by decide), (k_427 h hb0), (ks_2 h hb0)⟩ (xpV hb0 hS hz (va_P.sub hP [0, 1, 2] rfl) (va_recv hK hP (ci := 5) (q0 := 0) rfl rfl)) rfl rfl hl.1 rfl (lv_room (Nat.le_of_ble_eq_true rfl)) dX5_value_2 ⟨(Nat.le_of_ble_eq_true rfl), (Nat.le_of_ble_eq_true rfl)⟩) ?_
  refine va_get (D := (dC, dI)) (ci := 0) (v := .int v) (C := RX0) (T := TX0) (N := 1) hx hb (ly_0 h hb0) (fun _ z => z) hown hK hP 3 rfl rfl 0 (by decide) (k_381 h hb0) (fun _ z => z) rfl dX5_value_5 ?_
  exact W.iret hx hb hr (fun t ht _ => ⟨rfl, ht⟩) (fun q z => nomatch z) dX5_value_8
set_option maxHeartbeats 4000000 in
set_option maxRecDepth 100000 in
theorem c_value_2 {l : Launch} {s0 : State} {a0 : Array Value} {dC : Nat → ClassId} {dI : Nat → Nat → Nat} {cA : Nat → ClassId} (h : xC l s0 a0 dC dI cA) (b gr br : Nat) (wr ca : Int32) (ro pl : Nat) (z1 z2 z3 p1 : Int32) (f : Nat → Option Nat) (a : Nat) (v : Int32) (hm : z1 = 0 ∨ z1 = 1) (ht : ¬ z1 = 0) (h0 : ¬ p1 < 0) (h1 : p1 < z3) (hi : vp_in p1 19) (hf : f p1.toNatClampNeg = some a) : Met l yX5_value [Cond.code yX5_value cX5_value 2 (some .int)] ({ frames := 2, cells := 0, slots := 0, locals := 80 } : Room) (xP s0 (dC, dI) [.ref b, .int p1] [(b, .inr (5, [.ref ro, .ref gr, .ref br, .int wr, .int ca])), (br, .inr (1, [.ref pl, .int z1, .int z2, .int z3])), (pl, .inl (cA 8, 19, .inr (.inr (.inr (.inr f))))), (a, .inr (2, [.int v]))]) (xR (some (.int v))) 0 0 (fun _ => False) := by
  refine Met.ofW (cc := cX5_value) (maxL := 2) (ret := (some .int)) (by decide) rfl ?_
  intro p e s m args below meth c s₁ B hml hv
  obtain ⟨rfl, hb0, hP⟩ := hv
  have hx := B.exec
  have hb := B.bytes
  have hr := B.returns
  have hown : s.vm.findClass RX5 = some m.cls := findClass_of_methodNamed B.named
  have hlocks := B.notSynchronized
  have hK := h.K hb0
  have hS : va_S (fun _ : Nat => False) s.heap s.heap [] := va_S.rf
  have hz : ∀ q : Nat, (fun _ : Nat => False) q → s0.heap.size ≤ q := fun _ z => z.elim
  have hl := lv_entry ([.ref b, .int p1]) (n := 2) (Nat.le_of_ble_eq_true rfl)
  rw [lg_entry_eq]
  generalize (lg_sl ([.ref b, .int p1]) ++ List.replicate (2 - (lg_sl ([.ref b, .int p1])).length) Slot.unset).toArray = ls at hl ⊢
  have hl : lv_has ls 2 [(0, .ref b), (1, .int p1)] := hl
  refine lv_aload_n hx hb dX5_value_0 rfl (lv_at hl 0 rfl) ?_
  refine lv_iload_n hx hb dX5_value_1 rfl (lv_at hl 1 rfl) ?_
  refine xr_1 (va_runV (As := [.int p1]) (rest := []) ⟨hx, hb, hml, hown, xTs⟩ (c_boxAt h b gr br wr ca ro pl z1 z2 z3 p1 f a hm ht h0 h1 hi hf) ⟨xB (n := 1) (k_428 h hb0) (k_1 h hb0) (k_425 h hb0) (by decide) rfl rfl rfl (by decide) (by decide), (k_427 h hb0), (ks_2 h hb0)⟩ (xpV hb0 hS hz (va_P.sub hP [0, 1, 2] rfl) (va_recv hK hP (ci := 5) (q0 := 0) rfl rfl)) rfl rfl hl.1 rfl (lv_room (Nat.le_of_ble_eq_true rfl)) dX5_value_2 ⟨(Nat.le_of_ble_eq_true rfl), (Nat.le_of_ble_eq_true rfl)⟩) ?_
  refine va_get (D := (dC, dI)) (ci := 2) (v := .int v) (C := RX2) (T := TX2) (N := 1) hx hb (ly_2 h hb0) (fun _ z => z) hown hK hP 3 rfl rfl 0 (by decide) (k_381 h hb0) (fun _ z => z) rfl dX5_value_5 ?_
  exact W.iret hx hb hr (fun t ht _ => ⟨rfl, ht⟩) (fun q z => nomatch z) dX5_value_8
set_option maxHeartbeats 4000000 in
set_option maxRecDepth 100000 in
theorem t_change_N {l : Launch} {s0 : State} {a0 : Array Value} {dC : Nat → ClassId} {dI : Nat → Nat → Nat} {cA : Nat → ClassId} (h : xC l s0 a0 dC dI cA) (b gr br : Nat) (wr ca : Int32) (ro pl : Nat) (z1 z2 z3 p1 : Int32) (f : Nat → Option Nat) (p2 : Int32) (hm : z1 = 0 ∨ z1 = 1) (ht : z1 = 0) : xt_Met l yX5_change [Cond.code yX5_change cX5_change 5 (some .int)] ({ frames := 9, cells := 1, slots := 8, locals := 170 } : Room) (xP s0 (dC, dI) [.ref b, .int p1, .int p2] [(b, .inr (5, [.ref ro, .ref gr, .ref br, .int wr, .int ca])), (br, .inr (1, [.ref pl, .int z1, .int z2, .int z3])), (pl, .inl (cA 8, 19, .inr (.inr (.inr (.inr f)))))]) "java/lang/NullPointerException" 1 8 := by
  refine xt_ofW (cc := cX5_change) (maxL := 5) (ret := (some .int)) (by decide) rfl ?_
  intro p e s m args below meth c s₁ B hml hout hv
  obtain ⟨rfl, hb0, hP⟩ := hv
  have hx := B.exec
  have hb := B.bytes
  have hr := B.returns
  have hown : s.vm.findClass RX5 = some m.cls := findClass_of_methodNamed B.named
  have hlocks := B.notSynchronized
  have hK := h.K hb0
  have hS : va_S (fun _ : Nat => False) s.heap s.heap [] := va_S.rf
  have hz : ∀ q : Nat, (fun _ : Nat => False) q → s0.heap.size ≤ q := fun _ z => z.elim
  have hl := lv_entry ([.ref b, .int p1, .int p2]) (n := 5) (Nat.le_of_ble_eq_true rfl)
  rw [lg_entry_eq]
  generalize (lg_sl ([.ref b, .int p1, .int p2]) ++ List.replicate (5 - (lg_sl ([.ref b, .int p1, .int p2])).length) Slot.unset).toArray = ls at hl ⊢
  have hl : lv_has ls 5 [(0, .ref b), (1, .int p1), (2, .int p2)] := hl
  refine lv_aload_n hx hb dX5_change_0 rfl (lv_at hl 0 rfl) ?_
  refine lv_iload_n hx hb dX5_change_1 rfl (lv_at hl 1 rfl) ?_
  exact xt_callV (As := [.int p1]) (rest := []) ⟨hx, hb, hml, hown, xTs⟩ (t_boxAt_N h b gr br wr ca ro pl z1 z2 z3 p1 f hm ht) ⟨xB (n := 1) (k_428 h hb0) (k_1 h hb0) (k_425 h hb0) (by decide) rfl rfl rfl (by decide) (by decide), (k_427 h hb0), (ks_2 h hb0)⟩ (xpV hb0 hS hz (va_P.sub hP [0, 1, 2] rfl) (va_recv hK hP (ci := 5) (q0 := 0) rfl rfl)) rfl rfl hl.1 rfl (lv_room (Nat.le_of_ble_eq_true rfl)) dX5_change_2 ⟨(Nat.le_of_ble_eq_true rfl), (Nat.le_of_ble_eq_true rfl)⟩ (fun q ce H1 h1 h2 h3 h4 h5 => xt_out hout hlocks h1 h2 h3 (Nat.le_of_ble_eq_true rfl) (Nat.le_of_ble_eq_true rfl))
set_option maxHeartbeats 4000000 in
set_option maxRecDepth 100000 in
theorem t_change_A {l : Launch} {s0 : State} {a0 : Array Value} {dC : Nat → ClassId} {dI : Nat → Nat → Nat} {cA : Nat → ClassId} (h : xC l s0 a0 dC dI cA) (b gr br : Nat) (wr ca : Int32) (ro pl : Nat) (z1 z2 z3 p1 : Int32) (f : Nat → Option Nat) (p2 : Int32) (hm : z1 = 0 ∨ z1 = 1) (ht : ¬ z1 = 0) (hc : p1 < 0 ∨ ¬ p1 < z3) : xt_Met l yX5_change [Cond.code yX5_change cX5_change 5 (some .int)] ({ frames := 9, cells := 1, slots := 8, locals := 170 } : Room) (xP s0 (dC, dI) [.ref b, .int p1, .int p2] [(b, .inr (5, [.ref ro, .ref gr, .ref br, .int wr, .int ca])), (br, .inr (1, [.ref pl, .int z1, .int z2, .int z3])), (pl, .inl (cA 8, 19, .inr (.inr (.inr (.inr f)))))]) "java/lang/ArrayIndexOutOfBoundsException" 1 8 := by
  refine xt_ofW (cc := cX5_change) (maxL := 5) (ret := (some .int)) (by decide) rfl ?_
  intro p e s m args below meth c s₁ B hml hout hv
  obtain ⟨rfl, hb0, hP⟩ := hv
  have hx := B.exec
  have hb := B.bytes
  have hr := B.returns
  have hown : s.vm.findClass RX5 = some m.cls := findClass_of_methodNamed B.named
  have hlocks := B.notSynchronized
  have hK := h.K hb0
  have hS : va_S (fun _ : Nat => False) s.heap s.heap [] := va_S.rf
  have hz : ∀ q : Nat, (fun _ : Nat => False) q → s0.heap.size ≤ q := fun _ z => z.elim
  have hl := lv_entry ([.ref b, .int p1, .int p2]) (n := 5) (Nat.le_of_ble_eq_true rfl)
  rw [lg_entry_eq]
  generalize (lg_sl ([.ref b, .int p1, .int p2]) ++ List.replicate (5 - (lg_sl ([.ref b, .int p1, .int p2])).length) Slot.unset).toArray = ls at hl ⊢
  have hl : lv_has ls 5 [(0, .ref b), (1, .int p1), (2, .int p2)] := hl
  refine lv_aload_n hx hb dX5_change_0 rfl (lv_at hl 0 rfl) ?_
  refine lv_iload_n hx hb dX5_change_1 rfl (lv_at hl 1 rfl) ?_
  exact xt_callV (As := [.int p1]) (rest := []) ⟨hx, hb, hml, hown, xTs⟩ (t_boxAt_A h b gr br wr ca ro pl z1 z2 z3 p1 f hm ht hc) ⟨xB (n := 1) (k_428 h hb0) (k_1 h hb0) (k_425 h hb0) (by decide) rfl rfl rfl (by decide) (by decide), (k_427 h hb0), (ks_2 h hb0)⟩ (xpV hb0 hS hz (va_P.sub hP [0, 1, 2] rfl) (va_recv hK hP (ci := 5) (q0 := 0) rfl rfl)) rfl rfl hl.1 rfl (lv_room (Nat.le_of_ble_eq_true rfl)) dX5_change_2 ⟨(Nat.le_of_ble_eq_true rfl), (Nat.le_of_ble_eq_true rfl)⟩ (fun q ce H1 h1 h2 h3 h4 h5 => xt_out hout hlocks h1 h2 h3 (Nat.le_of_ble_eq_true rfl) (Nat.le_of_ble_eq_true rfl))
set_option maxHeartbeats 4000000 in
set_option maxRecDepth 100000 in
theorem t_change_2 {l : Launch} {s0 : State} {a0 : Array Value} {dC : Nat → ClassId} {dI : Nat → Nat → Nat} {cA : Nat → ClassId} (h : xC l s0 a0 dC dI cA) (b gr br : Nat) (wr ca : Int32) (ro pl : Nat) (z1 z2 z3 p1 : Int32) (f : Nat → Option Nat) (p2 : Int32) (hm : z1 = 0 ∨ z1 = 1) (ht : ¬ z1 = 0) (h0 : ¬ p1 < 0) (h1 : p1 < z3) (hi : vp_in p1 19) (hf : f p1.toNatClampNeg = none) : xt_Met l yX5_change [Cond.code yX5_change cX5_change 5 (some .int)] ({ frames := 9, cells := 1, slots := 8, locals := 170 } : Room) (xP s0 (dC, dI) [.ref b, .int p1, .int p2] [(b, .inr (5, [.ref ro, .ref gr, .ref br, .int wr, .int ca])), (br, .inr (1, [.ref pl, .int z1, .int z2, .int z3])), (pl, .inl (cA 8, 19, .inr (.inr (.inr (.inr f)))))]) "java/lang/NullPointerException" 1 8 := by
  refine xt_ofW (cc := cX5_change) (maxL := 5) (ret := (some .int)) (by decide) rfl ?_
  intro p e s m args below meth c s₁ B hml hout hv
  obtain ⟨rfl, hb0, hP⟩ := hv
  have hx := B.exec
  have hb := B.bytes
  have hr := B.returns
  have hown : s.vm.findClass RX5 = some m.cls := findClass_of_methodNamed B.named
  have hlocks := B.notSynchronized
  have hK := h.K hb0
  have hS : va_S (fun _ : Nat => False) s.heap s.heap [] := va_S.rf
  have hz : ∀ q : Nat, (fun _ : Nat => False) q → s0.heap.size ≤ q := fun _ z => z.elim
  have hl := lv_entry ([.ref b, .int p1, .int p2]) (n := 5) (Nat.le_of_ble_eq_true rfl)
  rw [lg_entry_eq]
  generalize (lg_sl ([.ref b, .int p1, .int p2]) ++ List.replicate (5 - (lg_sl ([.ref b, .int p1, .int p2])).length) Slot.unset).toArray = ls at hl ⊢
  have hl : lv_has ls 5 [(0, .ref b), (1, .int p1), (2, .int p2)] := hl
  refine lv_aload_n hx hb dX5_change_0 rfl (lv_at hl 0 rfl) ?_
  refine lv_iload_n hx hb dX5_change_1 rfl (lv_at hl 1 rfl) ?_
  exact xt_callV (As := [.int p1]) (rest := []) ⟨hx, hb, hml, hown, xTs⟩ (t_boxAt_2 h b gr br wr ca ro pl z1 z2 z3 p1 f hm ht h0 h1 hi hf) ⟨xB (n := 1) (k_428 h hb0) (k_1 h hb0) (k_425 h hb0) (by decide) rfl rfl rfl (by decide) (by decide), (k_427 h hb0), (ks_2 h hb0)⟩ (xpV hb0 hS hz (va_P.sub hP [0, 1, 2] rfl) (va_recv hK hP (ci := 5) (q0 := 0) rfl rfl)) rfl rfl hl.1 rfl (lv_room (Nat.le_of_ble_eq_true rfl)) dX5_change_2 ⟨(Nat.le_of_ble_eq_true rfl), (Nat.le_of_ble_eq_true rfl)⟩ (fun q ce H1 h1 h2 h3 h4 h5 => xt_out hout hlocks h1 h2 h3 (Nat.le_of_ble_eq_true rfl) (Nat.le_of_ble_eq_true rfl))
set_option maxHeartbeats 4000000 in
set_option maxRecDepth 100000 in
theorem c_change_0 {l : Launch} {s0 : State} {a0 : Array Value} {dC : Nat → ClassId} {dI : Nat → Nat → Nat} {cA : Nat → ClassId} (h : xC l s0 a0 dC dI cA) (b gr br : Nat) (wr ca : Int32) (ro pl : Nat) (z1 z2 z3 p1 : Int32) (f : Nat → Option Nat) (p2 : Int32) (a : Nat) (v : Int32) (sz : Nat) (hm : z1 = 0 ∨ z1 = 1) (ht : ¬ z1 = 0) (h0 : ¬ p1 < 0) (h1 : p1 < z3) (hi : vp_in p1 19) (hf : f p1.toNatClampNeg = some a) : Met l yX5_change [Cond.code yX5_change cX5_change 5 (some .int)] ({ frames := 2, cells := 0, slots := 0, locals := 80 } : Room) (xPM s0 (dC, dI) [.ref b, .int p1, .int p2] [(b, .inr (5, [.ref ro, .ref gr, .ref br, .int wr, .int ca])), (br, .inr (1, [.ref pl, .int z1, .int z2, .int z3])), (pl, .inl (cA 8, 19, .inr (.inr (.inr (.inr f)))))] [(a, .inr (0, [.int v]))] sz) (xQM (dC, dI) (va_A [(a, .inr (0, [.int v]))] sz) (fun r w1 => r = some (.int v) ∧ w1 = [(a, .inr (0, [.int p2]))])) 0 0 (va_A [(a, .inr (0, [.int v]))] sz) := by
  refine Met.ofW (cc := cX5_change) (maxL := 5) (ret := (some .int)) (by decide) rfl ?_
  intro p e s m args below meth c s₁ B hml hv
  obtain ⟨rfl, rfl, hb0, hPr, hP, hD0⟩ := hv
  have hx := B.exec
  have hb := B.bytes
  have hr := B.returns
  have hown : s.vm.findClass RX5 = some m.cls := findClass_of_methodNamed B.named
  have hlocks := B.notSynchronized
  have hK := h.K hb0
  have hS : va_S (va_A [(a, .inr (0, [.int v]))] s.heap.size) s.heap s.heap [] := va_S.rf
  obtain ⟨A, hAe, hD, hA, hz, hRo, hwk, hnR⟩ := xM_start hb0 hPr hP hD0
  rw [hAe] at hS ⊢
  have hl := lv_entry ([.ref b, .int p1, .int p2]) (n := 5) (Nat.le_of_ble_eq_true rfl)
  rw [lg_entry_eq]
  generalize (lg_sl ([.ref b, .int p1, .int p2]) ++ List.replicate (5 - (lg_sl ([.ref b, .int p1, .int p2])).length) Slot.unset).toArray = ls at hl ⊢
  have hl : lv_has ls 5 [(0, .ref b), (1, .int p1), (2, .int p2)] := hl
  refine lv_aload_n hx hb dX5_change_0 rfl (lv_at hl 0 rfl) ?_
  refine lv_iload_n hx hb dX5_change_1 rfl (lv_at hl 1 rfl) ?_
  refine xr_1 (va_runV (As := [.int p1]) (rest := []) ⟨hx, hb, hml, hown, xTs⟩ (c_boxAt h b gr br wr ca ro pl z1 z2 z3 p1 f a hm ht h0 h1 hi hf) ⟨xB (n := 1) (k_428 h hb0) (k_1 h hb0) (k_425 h hb0) (by decide) rfl rfl rfl (by decide) (by decide), (k_427 h hb0), (ks_2 h hb0)⟩ (xpV hb0 hS hz (va_P.sub (hRo _ _ hS) [0, 1, 2] rfl) (va_recv hK (hRo _ _ hS) (ci := 5) (q0 := 0) rfl rfl)) rfl rfl hl.1 rfl (lv_room (Nat.le_of_ble_eq_true rfl)) dX5_change_2 ⟨(Nat.le_of_ble_eq_true rfl), (Nat.le_of_ble_eq_true rfl)⟩) ?_
  refine lv_astore_n (lv' := [(3, .ref a), (0, .ref b), (1, .int p1), (2, .int p2)]) hx hb dX5_change_5 rfl hl (by decide) rfl (fun ls hl => ?_)
  refine lv_aload_n hx hb dX5_change_6 rfl (lv_at hl 0 rfl) ?_
  refine va_get (D := (dC, dI)) (ci := 0) (v := .int v) (C := RX0) (T := TX0) (N := 1) hx hb (ly_0 h hb0) (fun _ z => z) hown hK hP 0 rfl rfl 0 (by decide) (k_381 h hb0) (fun _ z => z) rfl dX5_change_7 ?_
  refine lv_istore (lv' := [(4, .int v), (3, .ref a), (0, .ref b), (1, .int p1), (2, .int p2)]) hx hb dX5_change_10 hl (by decide) rfl (fun ls hl => ?_)
  refine lv_aload_n hx hb dX5_change_12 rfl (lv_at hl 1 rfl) ?_
  refine lv_iload_n hx hb dX5_change_13 rfl (lv_at hl 4 rfl) ?_
  refine va_put (D := (dC, dI)) (ci := 0) (v := .int p2) (ty := .int) (C := RX0) (T := TX0) (N := 1) hx hb (ly_0 h hb0) (fun _ z => z) tyX0 tyX0_ok nmX0 hown hK hP hD hS 0 rfl rfl 0 (by decide) (k_381 h hb0) (fun _ z => z) rfl (by decide +kernel) rfl rfl (Nat.le_of_ble_eq_true rfl) dX5_change_14 (fun H locs hP hD hS => ?_)
  have hP : va_P (dC, dI) vwCl [(a, .inr (0, [.int p2]))] H := hP
  have hD : va_D A [(a, .inr (0, [.int p2]))] := hD
  refine lv_iload hx hb dX5_change_17 (lv_at hl 0 rfl) ?_
  exact W.iret hx hb hr (fun t ht _ => ⟨(some (.int v)), _, rfl, ⟨rfl, rfl⟩, by rw [ht]; exact hP, hD, hS.F ht⟩) (fun q z => hS.2.2 q z) dX5_change_19
set_option maxHeartbeats 4000000 in
set_option maxRecDepth 100000 in
theorem c_change_2 {l : Launch} {s0 : State} {a0 : Array Value} {dC : Nat → ClassId} {dI : Nat → Nat → Nat} {cA : Nat → ClassId} (h : xC l s0 a0 dC dI cA) (b gr br : Nat) (wr ca : Int32) (ro pl : Nat) (z1 z2 z3 p1 : Int32) (f : Nat → Option Nat) (p2 : Int32) (a : Nat) (v : Int32) (sz : Nat) (hm : z1 = 0 ∨ z1 = 1) (ht : ¬ z1 = 0) (h0 : ¬ p1 < 0) (h1 : p1 < z3) (hi : vp_in p1 19) (hf : f p1.toNatClampNeg = some a) : Met l yX5_change [Cond.code yX5_change cX5_change 5 (some .int)] ({ frames := 2, cells := 0, slots := 0, locals := 80 } : Room) (xPM s0 (dC, dI) [.ref b, .int p1, .int p2] [(b, .inr (5, [.ref ro, .ref gr, .ref br, .int wr, .int ca])), (br, .inr (1, [.ref pl, .int z1, .int z2, .int z3])), (pl, .inl (cA 8, 19, .inr (.inr (.inr (.inr f)))))] [(a, .inr (2, [.int v]))] sz) (xQM (dC, dI) (va_A [(a, .inr (2, [.int v]))] sz) (fun r w1 => r = some (.int v) ∧ w1 = [(a, .inr (2, [.int p2]))])) 0 0 (va_A [(a, .inr (2, [.int v]))] sz) := by
  refine Met.ofW (cc := cX5_change) (maxL := 5) (ret := (some .int)) (by decide) rfl ?_
  intro p e s m args below meth c s₁ B hml hv
  obtain ⟨rfl, rfl, hb0, hPr, hP, hD0⟩ := hv
  have hx := B.exec
  have hb := B.bytes
  have hr := B.returns
  have hown : s.vm.findClass RX5 = some m.cls := findClass_of_methodNamed B.named
  have hlocks := B.notSynchronized
  have hK := h.K hb0
  have hS : va_S (va_A [(a, .inr (2, [.int v]))] s.heap.size) s.heap s.heap [] := va_S.rf
  obtain ⟨A, hAe, hD, hA, hz, hRo, hwk, hnR⟩ := xM_start hb0 hPr hP hD0
  rw [hAe] at hS ⊢
  have hl := lv_entry ([.ref b, .int p1, .int p2]) (n := 5) (Nat.le_of_ble_eq_true rfl)
  rw [lg_entry_eq]
  generalize (lg_sl ([.ref b, .int p1, .int p2]) ++ List.replicate (5 - (lg_sl ([.ref b, .int p1, .int p2])).length) Slot.unset).toArray = ls at hl ⊢
  have hl : lv_has ls 5 [(0, .ref b), (1, .int p1), (2, .int p2)] := hl
  refine lv_aload_n hx hb dX5_change_0 rfl (lv_at hl 0 rfl) ?_
  refine lv_iload_n hx hb dX5_change_1 rfl (lv_at hl 1 rfl) ?_
  refine xr_1 (va_runV (As := [.int p1]) (rest := []) ⟨hx, hb, hml, hown, xTs⟩ (c_boxAt h b gr br wr ca ro pl z1 z2 z3 p1 f a hm ht h0 h1 hi hf) ⟨xB (n := 1) (k_428 h hb0) (k_1 h hb0) (k_425 h hb0) (by decide) rfl rfl rfl (by decide) (by decide), (k_427 h hb0), (ks_2 h hb0)⟩ (xpV hb0 hS hz (va_P.sub (hRo _ _ hS) [0, 1, 2] rfl) (va_recv hK (hRo _ _ hS) (ci := 5) (q0 := 0) rfl rfl)) rfl rfl hl.1 rfl (lv_room (Nat.le_of_ble_eq_true rfl)) dX5_change_2 ⟨(Nat.le_of_ble_eq_true rfl), (Nat.le_of_ble_eq_true rfl)⟩) ?_
  refine lv_astore_n (lv' := [(3, .ref a), (0, .ref b), (1, .int p1), (2, .int p2)]) hx hb dX5_change_5 rfl hl (by decide) rfl (fun ls hl => ?_)
  refine lv_aload_n hx hb dX5_change_6 rfl (lv_at hl 0 rfl) ?_
  refine va_get (D := (dC, dI)) (ci := 2) (v := .int v) (C := RX2) (T := TX2) (N := 1) hx hb (ly_2 h hb0) (fun _ z => z) hown hK hP 0 rfl rfl 0 (by decide) (k_381 h hb0) (fun _ z => z) rfl dX5_change_7 ?_
  refine lv_istore (lv' := [(4, .int v), (3, .ref a), (0, .ref b), (1, .int p1), (2, .int p2)]) hx hb dX5_change_10 hl (by decide) rfl (fun ls hl => ?_)
  refine lv_aload_n hx hb dX5_change_12 rfl (lv_at hl 1 rfl) ?_
  refine lv_iload_n hx hb dX5_change_13 rfl (lv_at hl 4 rfl) ?_
  refine va_put (D := (dC, dI)) (ci := 2) (v := .int p2) (ty := .int) (C := RX2) (T := TX2) (N := 1) hx hb (ly_2 h hb0) (fun _ z => z) tyX2 tyX2_ok nmX2 hown hK hP hD hS 0 rfl rfl 0 (by decide) (k_381 h hb0) (fun _ z => z) rfl (by decide +kernel) rfl rfl (Nat.le_of_ble_eq_true rfl) dX5_change_14 (fun H locs hP hD hS => ?_)
  have hP : va_P (dC, dI) vwCl [(a, .inr (2, [.int p2]))] H := hP
  have hD : va_D A [(a, .inr (2, [.int p2]))] := hD
  refine lv_iload hx hb dX5_change_17 (lv_at hl 0 rfl) ?_
  exact W.iret hx hb hr (fun t ht _ => ⟨(some (.int v)), _, rfl, ⟨rfl, rfl⟩, by rw [ht]; exact hP, hD, hS.F ht⟩) (fun q z => hS.2.2 q z) dX5_change_19
set_option maxHeartbeats 4000000 in
set_option maxRecDepth 100000 in
theorem t_weigh_N {l : Launch} {s0 : State} {a0 : Array Value} {dC : Nat → ClassId} {dI : Nat → Nat → Nat} {cA : Nat → ClassId} (h : xC l s0 a0 dC dI cA) (b gr br : Nat) (wr ca : Int32) (ro pl : Nat) (z1 z2 z3 p1 : Int32) (f : Nat → Option Nat) (p2 : Int32) (hm : z1 = 0 ∨ z1 = 1) (ht : z1 = 0) : xt_Met l yX5_weigh [Cond.code yX5_weigh cX5_weigh 3 (some .int)] ({ frames := 9, cells := 1, slots := 8, locals := 170 } : Room) (xP s0 (dC, dI) [.ref b, .int p1, .int p2] [(b, .inr (5, [.ref ro, .ref gr, .ref br, .int wr, .int ca])), (br, .inr (1, [.ref pl, .int z1, .int z2, .int z3])), (pl, .inl (cA 8, 19, .inr (.inr (.inr (.inr f)))))]) "java/lang/NullPointerException" 1 8 := by
  refine xt_ofW (cc := cX5_weigh) (maxL := 3) (ret := (some .int)) (by decide) rfl ?_
  intro p e s m args below meth c s₁ B hml hout hv
  obtain ⟨rfl, hb0, hP⟩ := hv
  have hx := B.exec
  have hb := B.bytes
  have hr := B.returns
  have hown : s.vm.findClass RX5 = some m.cls := findClass_of_methodNamed B.named
  have hlocks := B.notSynchronized
  have hK := h.K hb0
  have hS : va_S (fun _ : Nat => False) s.heap s.heap [] := va_S.rf
  have hz : ∀ q : Nat, (fun _ : Nat => False) q → s0.heap.size ≤ q := fun _ z => z.elim
  have hl := lv_entry ([.ref b, .int p1, .int p2]) (n := 3) (Nat.le_of_ble_eq_true rfl)
  rw [lg_entry_eq]
  generalize (lg_sl ([.ref b, .int p1, .int p2]) ++ List.replicate (3 - (lg_sl ([.ref b, .int p1, .int p2])).length) Slot.unset).toArray = ls at hl ⊢
  have hl : lv_has ls 3 [(0, .ref b), (1, .int p1), (2, .int p2)] := hl
  refine lv_aload_n hx hb dX5_weigh_0 rfl (lv_at hl 0 rfl) ?_
  refine lv_iload_n hx hb dX5_weigh_1 rfl (lv_at hl 1 rfl) ?_
  exact xt_callV (As := [.int p1]) (rest := []) ⟨hx, hb, hml, hown, xTs⟩ (t_boxAt_N h b gr br wr ca ro pl z1 z2 z3 p1 f hm ht) ⟨xB (n := 1) (k_428 h hb0) (k_1 h hb0) (k_425 h hb0) (by decide) rfl rfl rfl (by decide) (by decide), (k_427 h hb0), (ks_2 h hb0)⟩ (xpV hb0 hS hz (va_P.sub hP [0, 1, 2] rfl) (va_recv hK hP (ci := 5) (q0 := 0) rfl rfl)) rfl rfl hl.1 rfl (lv_room (Nat.le_of_ble_eq_true rfl)) dX5_weigh_2 ⟨(Nat.le_of_ble_eq_true rfl), (Nat.le_of_ble_eq_true rfl)⟩ (fun q ce H1 h1 h2 h3 h4 h5 => xt_out hout hlocks h1 h2 h3 (Nat.le_of_ble_eq_true rfl) (Nat.le_of_ble_eq_true rfl))
set_option maxHeartbeats 4000000 in
set_option maxRecDepth 100000 in
theorem t_weigh_A {l : Launch} {s0 : State} {a0 : Array Value} {dC : Nat → ClassId} {dI : Nat → Nat → Nat} {cA : Nat → ClassId} (h : xC l s0 a0 dC dI cA) (b gr br : Nat) (wr ca : Int32) (ro pl : Nat) (z1 z2 z3 p1 : Int32) (f : Nat → Option Nat) (p2 : Int32) (hm : z1 = 0 ∨ z1 = 1) (ht : ¬ z1 = 0) (hc : p1 < 0 ∨ ¬ p1 < z3) : xt_Met l yX5_weigh [Cond.code yX5_weigh cX5_weigh 3 (some .int)] ({ frames := 9, cells := 1, slots := 8, locals := 170 } : Room) (xP s0 (dC, dI) [.ref b, .int p1, .int p2] [(b, .inr (5, [.ref ro, .ref gr, .ref br, .int wr, .int ca])), (br, .inr (1, [.ref pl, .int z1, .int z2, .int z3])), (pl, .inl (cA 8, 19, .inr (.inr (.inr (.inr f)))))]) "java/lang/ArrayIndexOutOfBoundsException" 1 8 := by
  refine xt_ofW (cc := cX5_weigh) (maxL := 3) (ret := (some .int)) (by decide) rfl ?_
  intro p e s m args below meth c s₁ B hml hout hv
  obtain ⟨rfl, hb0, hP⟩ := hv
  have hx := B.exec
  have hb := B.bytes
  have hr := B.returns
  have hown : s.vm.findClass RX5 = some m.cls := findClass_of_methodNamed B.named
  have hlocks := B.notSynchronized
  have hK := h.K hb0
  have hS : va_S (fun _ : Nat => False) s.heap s.heap [] := va_S.rf
  have hz : ∀ q : Nat, (fun _ : Nat => False) q → s0.heap.size ≤ q := fun _ z => z.elim
  have hl := lv_entry ([.ref b, .int p1, .int p2]) (n := 3) (Nat.le_of_ble_eq_true rfl)
  rw [lg_entry_eq]
  generalize (lg_sl ([.ref b, .int p1, .int p2]) ++ List.replicate (3 - (lg_sl ([.ref b, .int p1, .int p2])).length) Slot.unset).toArray = ls at hl ⊢
  have hl : lv_has ls 3 [(0, .ref b), (1, .int p1), (2, .int p2)] := hl
  refine lv_aload_n hx hb dX5_weigh_0 rfl (lv_at hl 0 rfl) ?_
  refine lv_iload_n hx hb dX5_weigh_1 rfl (lv_at hl 1 rfl) ?_
  exact xt_callV (As := [.int p1]) (rest := []) ⟨hx, hb, hml, hown, xTs⟩ (t_boxAt_A h b gr br wr ca ro pl z1 z2 z3 p1 f hm ht hc) ⟨xB (n := 1) (k_428 h hb0) (k_1 h hb0) (k_425 h hb0) (by decide) rfl rfl rfl (by decide) (by decide), (k_427 h hb0), (ks_2 h hb0)⟩ (xpV hb0 hS hz (va_P.sub hP [0, 1, 2] rfl) (va_recv hK hP (ci := 5) (q0 := 0) rfl rfl)) rfl rfl hl.1 rfl (lv_room (Nat.le_of_ble_eq_true rfl)) dX5_weigh_2 ⟨(Nat.le_of_ble_eq_true rfl), (Nat.le_of_ble_eq_true rfl)⟩ (fun q ce H1 h1 h2 h3 h4 h5 => xt_out hout hlocks h1 h2 h3 (Nat.le_of_ble_eq_true rfl) (Nat.le_of_ble_eq_true rfl))
set_option maxHeartbeats 4000000 in
set_option maxRecDepth 100000 in
theorem t_weigh_2 {l : Launch} {s0 : State} {a0 : Array Value} {dC : Nat → ClassId} {dI : Nat → Nat → Nat} {cA : Nat → ClassId} (h : xC l s0 a0 dC dI cA) (b gr br : Nat) (wr ca : Int32) (ro pl : Nat) (z1 z2 z3 p1 : Int32) (f : Nat → Option Nat) (p2 : Int32) (hm : z1 = 0 ∨ z1 = 1) (ht : ¬ z1 = 0) (h0 : ¬ p1 < 0) (h1 : p1 < z3) (hi : vp_in p1 19) (hf : f p1.toNatClampNeg = none) : xt_Met l yX5_weigh [Cond.code yX5_weigh cX5_weigh 3 (some .int)] ({ frames := 9, cells := 1, slots := 8, locals := 170 } : Room) (xP s0 (dC, dI) [.ref b, .int p1, .int p2] [(b, .inr (5, [.ref ro, .ref gr, .ref br, .int wr, .int ca])), (br, .inr (1, [.ref pl, .int z1, .int z2, .int z3])), (pl, .inl (cA 8, 19, .inr (.inr (.inr (.inr f)))))]) "java/lang/NullPointerException" 1 8 := by
  refine xt_ofW (cc := cX5_weigh) (maxL := 3) (ret := (some .int)) (by decide) rfl ?_
  intro p e s m args below meth c s₁ B hml hout hv
  obtain ⟨rfl, hb0, hP⟩ := hv
  have hx := B.exec
  have hb := B.bytes
  have hr := B.returns
  have hown : s.vm.findClass RX5 = some m.cls := findClass_of_methodNamed B.named
  have hlocks := B.notSynchronized
  have hK := h.K hb0
  have hS : va_S (fun _ : Nat => False) s.heap s.heap [] := va_S.rf
  have hz : ∀ q : Nat, (fun _ : Nat => False) q → s0.heap.size ≤ q := fun _ z => z.elim
  have hl := lv_entry ([.ref b, .int p1, .int p2]) (n := 3) (Nat.le_of_ble_eq_true rfl)
  rw [lg_entry_eq]
  generalize (lg_sl ([.ref b, .int p1, .int p2]) ++ List.replicate (3 - (lg_sl ([.ref b, .int p1, .int p2])).length) Slot.unset).toArray = ls at hl ⊢
  have hl : lv_has ls 3 [(0, .ref b), (1, .int p1), (2, .int p2)] := hl
  refine lv_aload_n hx hb dX5_weigh_0 rfl (lv_at hl 0 rfl) ?_
  refine lv_iload_n hx hb dX5_weigh_1 rfl (lv_at hl 1 rfl) ?_
  exact xt_callV (As := [.int p1]) (rest := []) ⟨hx, hb, hml, hown, xTs⟩ (t_boxAt_2 h b gr br wr ca ro pl z1 z2 z3 p1 f hm ht h0 h1 hi hf) ⟨xB (n := 1) (k_428 h hb0) (k_1 h hb0) (k_425 h hb0) (by decide) rfl rfl rfl (by decide) (by decide), (k_427 h hb0), (ks_2 h hb0)⟩ (xpV hb0 hS hz (va_P.sub hP [0, 1, 2] rfl) (va_recv hK hP (ci := 5) (q0 := 0) rfl rfl)) rfl rfl hl.1 rfl (lv_room (Nat.le_of_ble_eq_true rfl)) dX5_weigh_2 ⟨(Nat.le_of_ble_eq_true rfl), (Nat.le_of_ble_eq_true rfl)⟩ (fun q ce H1 h1 h2 h3 h4 h5 => xt_out hout hlocks h1 h2 h3 (Nat.le_of_ble_eq_true rfl) (Nat.le_of_ble_eq_true rfl))
set_option maxHeartbeats 4000000 in
set_option maxRecDepth 100000 in
theorem c_weigh_0 {l : Launch} {s0 : State} {a0 : Array Value} {dC : Nat → ClassId} {dI : Nat → Nat → Nat} {cA : Nat → ClassId} (h : xC l s0 a0 dC dI cA) (b gr br : Nat) (wr ca : Int32) (ro pl : Nat) (z1 z2 z3 p1 : Int32) (f : Nat → Option Nat) (p2 : Int32) (a : Nat) (v : Int32) (hm : z1 = 0 ∨ z1 = 1) (ht : ¬ z1 = 0) (h0 : ¬ p1 < 0) (h1 : p1 < z3) (hi : vp_in p1 19) (hf : f p1.toNatClampNeg = some a) : Met l yX5_weigh [Cond.code yX5_weigh cX5_weigh 3 (some .int)] ({ frames := 2, cells := 0, slots := 0, locals := 80 } : Room) (xP s0 (dC, dI) [.ref b, .int p1, .int p2] [(b, .inr (5, [.ref ro, .ref gr, .ref br, .int wr, .int ca])), (br, .inr (1, [.ref pl, .int z1, .int z2, .int z3])), (pl, .inl (cA 8, 19, .inr (.inr (.inr (.inr f))))), (a, .inr (0, [.int v]))]) (xR (some (.int (v * 3 + p2)))) 0 0 (fun _ => False) := by
  refine Met.ofW (cc := cX5_weigh) (maxL := 3) (ret := (some .int)) (by decide) rfl ?_
  intro p e s m args below meth c s₁ B hml hv
  obtain ⟨rfl, hb0, hP⟩ := hv
  have hx := B.exec
  have hb := B.bytes
  have hr := B.returns
  have hown : s.vm.findClass RX5 = some m.cls := findClass_of_methodNamed B.named
  have hlocks := B.notSynchronized
  have hK := h.K hb0
  have hS : va_S (fun _ : Nat => False) s.heap s.heap [] := va_S.rf
  have hz : ∀ q : Nat, (fun _ : Nat => False) q → s0.heap.size ≤ q := fun _ z => z.elim
  have hl := lv_entry ([.ref b, .int p1, .int p2]) (n := 3) (Nat.le_of_ble_eq_true rfl)
  rw [lg_entry_eq]
  generalize (lg_sl ([.ref b, .int p1, .int p2]) ++ List.replicate (3 - (lg_sl ([.ref b, .int p1, .int p2])).length) Slot.unset).toArray = ls at hl ⊢
  have hl : lv_has ls 3 [(0, .ref b), (1, .int p1), (2, .int p2)] := hl
  refine lv_aload_n hx hb dX5_weigh_0 rfl (lv_at hl 0 rfl) ?_
  refine lv_iload_n hx hb dX5_weigh_1 rfl (lv_at hl 1 rfl) ?_
  refine xr_1 (va_runV (As := [.int p1]) (rest := []) ⟨hx, hb, hml, hown, xTs⟩ (c_boxAt h b gr br wr ca ro pl z1 z2 z3 p1 f a hm ht h0 h1 hi hf) ⟨xB (n := 1) (k_428 h hb0) (k_1 h hb0) (k_425 h hb0) (by decide) rfl rfl rfl (by decide) (by decide), (k_427 h hb0), (ks_2 h hb0)⟩ (xpV hb0 hS hz (va_P.sub hP [0, 1, 2] rfl) (va_recv hK hP (ci := 5) (q0 := 0) rfl rfl)) rfl rfl hl.1 rfl (lv_room (Nat.le_of_ble_eq_true rfl)) dX5_weigh_2 ⟨(Nat.le_of_ble_eq_true rfl), (Nat.le_of_ble_eq_true rfl)⟩) ?_
  refine lv_iload_n hx hb dX5_weigh_5 rfl (lv_at hl 2 rfl) ?_
  refine xr_1 (va_runV (As := [.int p2]) (rest := []) ⟨hx, hb, hml, hown, xTs⟩ (c_weightBox h a v p2) ⟨xB (n := 1) (k_455 h hb0) (k_13 h hb0) (k_448 h hb0) (by decide) rfl rfl rfl (by decide) (by decide), (k_449 h hb0), (k_450 h hb0)⟩ (xpV hb0 hS hz (va_P.sub hP [3] rfl) (va_recv hK hP (ci := 0) (q0 := 3) rfl rfl)) rfl rfl hl.1 rfl (lv_room (Nat.le_of_ble_eq_true rfl)) dX5_weigh_6 ⟨(Nat.le_of_ble_eq_true rfl), (Nat.le_of_ble_eq_true rfl)⟩) ?_
  exact W.iret hx hb hr (fun t ht _ => ⟨rfl, ht⟩) (fun q z => nomatch z) dX5_weigh_9
set_option maxHeartbeats 4000000 in
set_option maxRecDepth 100000 in
theorem t_roll_N {l : Launch} {s0 : State} {a0 : Array Value} {dC : Nat → ClassId} {dI : Nat → Nat → Nat} {cA : Nat → ClassId} (h : xC l s0 a0 dC dI cA) (b gr br : Nat) (wr ca : Int32) (ro pl : Nat) (z1 z2 z3 p1 : Int32) (f : Nat → Option Nat) (p2 : Int32) (hm : z1 = 0 ∨ z1 = 1) (ht : z1 = 0) : xt_Met l yX5_roll [Cond.code yX5_roll cX5_roll 5 (some .int)] ({ frames := 9, cells := 1, slots := 8, locals := 170 } : Room) (xP s0 (dC, dI) [.ref b, .int p1, .int p2] [(b, .inr (5, [.ref ro, .ref gr, .ref br, .int wr, .int ca])), (br, .inr (1, [.ref pl, .int z1, .int z2, .int z3])), (pl, .inl (cA 8, 19, .inr (.inr (.inr (.inr f)))))]) "java/lang/NullPointerException" 1 8 := by
  refine xt_ofW (cc := cX5_roll) (maxL := 5) (ret := (some .int)) (by decide) rfl ?_
  intro p e s m args below meth c s₁ B hml hout hv
  obtain ⟨rfl, hb0, hP⟩ := hv
  have hx := B.exec
  have hb := B.bytes
  have hr := B.returns
  have hown : s.vm.findClass RX5 = some m.cls := findClass_of_methodNamed B.named
  have hlocks := B.notSynchronized
  have hK := h.K hb0
  have hS : va_S (fun _ : Nat => False) s.heap s.heap [] := va_S.rf
  have hz : ∀ q : Nat, (fun _ : Nat => False) q → s0.heap.size ≤ q := fun _ z => z.elim
  have hl := lv_entry ([.ref b, .int p1, .int p2]) (n := 5) (Nat.le_of_ble_eq_true rfl)
  rw [lg_entry_eq]
  generalize (lg_sl ([.ref b, .int p1, .int p2]) ++ List.replicate (5 - (lg_sl ([.ref b, .int p1, .int p2])).length) Slot.unset).toArray = ls at hl ⊢
  have hl : lv_has ls 5 [(0, .ref b), (1, .int p1), (2, .int p2)] := hl
  refine lv_aload_n hx hb dX5_roll_0 rfl (lv_at hl 0 rfl) ?_
  refine lv_iload_n hx hb dX5_roll_1 rfl (lv_at hl 1 rfl) ?_
  exact xt_callV (As := [.int p1]) (rest := []) ⟨hx, hb, hml, hown, xTs⟩ (t_boxAt_N h b gr br wr ca ro pl z1 z2 z3 p1 f hm ht) ⟨xB (n := 1) (k_428 h hb0) (k_1 h hb0) (k_425 h hb0) (by decide) rfl rfl rfl (by decide) (by decide), (k_427 h hb0), (ks_2 h hb0)⟩ (xpV hb0 hS hz (va_P.sub hP [0, 1, 2] rfl) (va_recv hK hP (ci := 5) (q0 := 0) rfl rfl)) rfl rfl hl.1 rfl (lv_room (Nat.le_of_ble_eq_true rfl)) dX5_roll_2 ⟨(Nat.le_of_ble_eq_true rfl), (Nat.le_of_ble_eq_true rfl)⟩ (fun q ce H1 h1 h2 h3 h4 h5 => xt_out hout hlocks h1 h2 h3 (Nat.le_of_ble_eq_true rfl) (Nat.le_of_ble_eq_true rfl))
set_option maxHeartbeats 4000000 in
set_option maxRecDepth 100000 in
theorem t_roll_A {l : Launch} {s0 : State} {a0 : Array Value} {dC : Nat → ClassId} {dI : Nat → Nat → Nat} {cA : Nat → ClassId} (h : xC l s0 a0 dC dI cA) (b gr br : Nat) (wr ca : Int32) (ro pl : Nat) (z1 z2 z3 p1 : Int32) (f : Nat → Option Nat) (p2 : Int32) (hm : z1 = 0 ∨ z1 = 1) (ht : ¬ z1 = 0) (hc : p1 < 0 ∨ ¬ p1 < z3) : xt_Met l yX5_roll [Cond.code yX5_roll cX5_roll 5 (some .int)] ({ frames := 9, cells := 1, slots := 8, locals := 170 } : Room) (xP s0 (dC, dI) [.ref b, .int p1, .int p2] [(b, .inr (5, [.ref ro, .ref gr, .ref br, .int wr, .int ca])), (br, .inr (1, [.ref pl, .int z1, .int z2, .int z3])), (pl, .inl (cA 8, 19, .inr (.inr (.inr (.inr f)))))]) "java/lang/ArrayIndexOutOfBoundsException" 1 8 := by
  refine xt_ofW (cc := cX5_roll) (maxL := 5) (ret := (some .int)) (by decide) rfl ?_
  intro p e s m args below meth c s₁ B hml hout hv
  obtain ⟨rfl, hb0, hP⟩ := hv
  have hx := B.exec
  have hb := B.bytes
  have hr := B.returns
  have hown : s.vm.findClass RX5 = some m.cls := findClass_of_methodNamed B.named
  have hlocks := B.notSynchronized
  have hK := h.K hb0
  have hS : va_S (fun _ : Nat => False) s.heap s.heap [] := va_S.rf
  have hz : ∀ q : Nat, (fun _ : Nat => False) q → s0.heap.size ≤ q := fun _ z => z.elim
  have hl := lv_entry ([.ref b, .int p1, .int p2]) (n := 5) (Nat.le_of_ble_eq_true rfl)
  rw [lg_entry_eq]
  generalize (lg_sl ([.ref b, .int p1, .int p2]) ++ List.replicate (5 - (lg_sl ([.ref b, .int p1, .int p2])).length) Slot.unset).toArray = ls at hl ⊢
  have hl : lv_has ls 5 [(0, .ref b), (1, .int p1), (2, .int p2)] := hl
  refine lv_aload_n hx hb dX5_roll_0 rfl (lv_at hl 0 rfl) ?_
  refine lv_iload_n hx hb dX5_roll_1 rfl (lv_at hl 1 rfl) ?_
  exact xt_callV (As := [.int p1]) (rest := []) ⟨hx, hb, hml, hown, xTs⟩ (t_boxAt_A h b gr br wr ca ro pl z1 z2 z3 p1 f hm ht hc) ⟨xB (n := 1) (k_428 h hb0) (k_1 h hb0) (k_425 h hb0) (by decide) rfl rfl rfl (by decide) (by decide), (k_427 h hb0), (ks_2 h hb0)⟩ (xpV hb0 hS hz (va_P.sub hP [0, 1, 2] rfl) (va_recv hK hP (ci := 5) (q0 := 0) rfl rfl)) rfl rfl hl.1 rfl (lv_room (Nat.le_of_ble_eq_true rfl)) dX5_roll_2 ⟨(Nat.le_of_ble_eq_true rfl), (Nat.le_of_ble_eq_true rfl)⟩ (fun q ce H1 h1 h2 h3 h4 h5 => xt_out hout hlocks h1 h2 h3 (Nat.le_of_ble_eq_true rfl) (Nat.le_of_ble_eq_true rfl))
set_option maxHeartbeats 4000000 in
set_option maxRecDepth 100000 in
theorem t_roll_2 {l : Launch} {s0 : State} {a0 : Array Value} {dC : Nat → ClassId} {dI : Nat → Nat → Nat} {cA : Nat → ClassId} (h : xC l s0 a0 dC dI cA) (b gr br : Nat) (wr ca : Int32) (ro pl : Nat) (z1 z2 z3 p1 : Int32) (f : Nat → Option Nat) (p2 : Int32) (hm : z1 = 0 ∨ z1 = 1) (ht : ¬ z1 = 0) (h0 : ¬ p1 < 0) (h1 : p1 < z3) (hi : vp_in p1 19) (hf : f p1.toNatClampNeg = none) : xt_Met l yX5_roll [Cond.code yX5_roll cX5_roll 5 (some .int)] ({ frames := 9, cells := 1, slots := 8, locals := 170 } : Room) (xP s0 (dC, dI) [.ref b, .int p1, .int p2] [(b, .inr (5, [.ref ro, .ref gr, .ref br, .int wr, .int ca])), (br, .inr (1, [.ref pl, .int z1, .int z2, .int z3])), (pl, .inl (cA 8, 19, .inr (.inr (.inr (.inr f)))))]) "java/lang/NullPointerException" 1 8 := by
  refine xt_ofW (cc := cX5_roll) (maxL := 5) (ret := (some .int)) (by decide) rfl ?_
  intro p e s m args below meth c s₁ B hml hout hv
  obtain ⟨rfl, hb0, hP⟩ := hv
  have hx := B.exec
  have hb := B.bytes
  have hr := B.returns
  have hown : s.vm.findClass RX5 = some m.cls := findClass_of_methodNamed B.named
  have hlocks := B.notSynchronized
  have hK := h.K hb0
  have hS : va_S (fun _ : Nat => False) s.heap s.heap [] := va_S.rf
  have hz : ∀ q : Nat, (fun _ : Nat => False) q → s0.heap.size ≤ q := fun _ z => z.elim
  have hl := lv_entry ([.ref b, .int p1, .int p2]) (n := 5) (Nat.le_of_ble_eq_true rfl)
  rw [lg_entry_eq]
  generalize (lg_sl ([.ref b, .int p1, .int p2]) ++ List.replicate (5 - (lg_sl ([.ref b, .int p1, .int p2])).length) Slot.unset).toArray = ls at hl ⊢
  have hl : lv_has ls 5 [(0, .ref b), (1, .int p1), (2, .int p2)] := hl
  refine lv_aload_n hx hb dX5_roll_0 rfl (lv_at hl 0 rfl) ?_
  refine lv_iload_n hx hb dX5_roll_1 rfl (lv_at hl 1 rfl) ?_
  exact xt_callV (As := [.int p1]) (rest := []) ⟨hx, hb, hml, hown, xTs⟩ (t_boxAt_2 h b gr br wr ca ro pl z1 z2 z3 p1 f hm ht h0 h1 hi hf) ⟨xB (n := 1) (k_428 h hb0) (k_1 h hb0) (k_425 h hb0) (by decide) rfl rfl rfl (by decide) (by decide), (k_427 h hb0), (ks_2 h hb0)⟩ (xpV hb0 hS hz (va_P.sub hP [0, 1, 2] rfl) (va_recv hK hP (ci := 5) (q0 := 0) rfl rfl)) rfl rfl hl.1 rfl (lv_room (Nat.le_of_ble_eq_true rfl)) dX5_roll_2 ⟨(Nat.le_of_ble_eq_true rfl), (Nat.le_of_ble_eq_true rfl)⟩ (fun q ce H1 h1 h2 h3 h4 h5 => xt_out hout hlocks h1 h2 h3 (Nat.le_of_ble_eq_true rfl) (Nat.le_of_ble_eq_true rfl))
set_option maxHeartbeats 4000000 in
set_option maxRecDepth 100000 in
theorem c_roll_2 {l : Launch} {s0 : State} {a0 : Array Value} {dC : Nat → ClassId} {dI : Nat → Nat → Nat} {cA : Nat → ClassId} (h : xC l s0 a0 dC dI cA) (b gr br : Nat) (wr ca : Int32) (ro pl : Nat) (z1 z2 z3 p1 : Int32) (f : Nat → Option Nat) (p2 : Int32) (a : Nat) (v : Int32) (hm : z1 = 0 ∨ z1 = 1) (ht : ¬ z1 = 0) (h0 : ¬ p1 < 0) (h1 : p1 < z3) (hi : vp_in p1 19) (hf : f p1.toNatClampNeg = some a) : Met l yX5_roll [Cond.code yX5_roll cX5_roll 5 (some .int)] ({ frames := 2, cells := 0, slots := 0, locals := 80 } : Room) (xP s0 (dC, dI) [.ref b, .int p1, .int p2] [(b, .inr (5, [.ref ro, .ref gr, .ref br, .int wr, .int ca])), (br, .inr (1, [.ref pl, .int z1, .int z2, .int z3])), (pl, .inl (cA 8, 19, .inr (.inr (.inr (.inr f))))), (a, .inr (2, [.int v]))]) (xR (some (.int (v ^^^ p2)))) 0 0 (fun _ => False) := by
  refine Met.ofW (cc := cX5_roll) (maxL := 5) (ret := (some .int)) (by decide) rfl ?_
  intro p e s m args below meth c s₁ B hml hv
  obtain ⟨rfl, hb0, hP⟩ := hv
  have hx := B.exec
  have hb := B.bytes
  have hr := B.returns
  have hown : s.vm.findClass RX5 = some m.cls := findClass_of_methodNamed B.named
  have hlocks := B.notSynchronized
  have hK := h.K hb0
  have hS : va_S (fun _ : Nat => False) s.heap s.heap [] := va_S.rf
  have hz : ∀ q : Nat, (fun _ : Nat => False) q → s0.heap.size ≤ q := fun _ z => z.elim
  have hl := lv_entry ([.ref b, .int p1, .int p2]) (n := 5) (Nat.le_of_ble_eq_true rfl)
  rw [lg_entry_eq]
  generalize (lg_sl ([.ref b, .int p1, .int p2]) ++ List.replicate (5 - (lg_sl ([.ref b, .int p1, .int p2])).length) Slot.unset).toArray = ls at hl ⊢
  have hl : lv_has ls 5 [(0, .ref b), (1, .int p1), (2, .int p2)] := hl
  refine lv_aload_n hx hb dX5_roll_0 rfl (lv_at hl 0 rfl) ?_
  refine lv_iload_n hx hb dX5_roll_1 rfl (lv_at hl 1 rfl) ?_
  refine xr_1 (va_runV (As := [.int p1]) (rest := []) ⟨hx, hb, hml, hown, xTs⟩ (c_boxAt h b gr br wr ca ro pl z1 z2 z3 p1 f a hm ht h0 h1 hi hf) ⟨xB (n := 1) (k_428 h hb0) (k_1 h hb0) (k_425 h hb0) (by decide) rfl rfl rfl (by decide) (by decide), (k_427 h hb0), (ks_2 h hb0)⟩ (xpV hb0 hS hz (va_P.sub hP [0, 1, 2] rfl) (va_recv hK hP (ci := 5) (q0 := 0) rfl rfl)) rfl rfl hl.1 rfl (lv_room (Nat.le_of_ble_eq_true rfl)) dX5_roll_2 ⟨(Nat.le_of_ble_eq_true rfl), (Nat.le_of_ble_eq_true rfl)⟩) ?_
  refine lv_astore_n (lv' := [(3, .ref a), (0, .ref b), (1, .int p1), (2, .int p2)]) hx hb dX5_roll_5 rfl hl (by decide) rfl (fun ls hl => ?_)
  refine lv_aload_n hx hb dX5_roll_6 rfl (lv_at hl 0 rfl) ?_
  refine va_instY (C := RX2) hx hb hown (k_385 h hb0) (k_655 h hb0) (va_recv hK hP (ci := 2) (q0 := 3) rfl rfl) dX5_roll_7 ?_
  refine lv_if_eq (tgt := 26) hx hb dX5_roll_10 (by decide) (fun c_1 => ?_) (fun c_1 => ?_)
  · exact absurd c_1 (by decide)
  · refine lv_aload_n hx hb dX5_roll_13 rfl (lv_at hl 0 rfl) ?_
    refine va_castY (C := RX2) hx hb hown (k_385 h hb0) (k_655 h hb0) (va_recv hK hP (ci := 2) (q0 := 3) rfl rfl) dX5_roll_14 ?_
    refine lv_astore (lv' := [(4, .ref a), (3, .ref a), (0, .ref b), (1, .int p1), (2, .int p2)]) hx hb dX5_roll_17 hl (by decide) rfl (fun ls hl => ?_)
    refine lv_aload hx hb dX5_roll_19 (lv_at hl 0 rfl) ?_
    refine lv_iload_n hx hb dX5_roll_21 rfl (lv_at hl 4 rfl) ?_
    refine xr_1 (va_runV (As := [.int p2]) (rest := []) ⟨hx, hb, hml, hown, xTs⟩ (c_rolled h a v p2) ⟨xB (n := 1) (k_467 h hb0) (k_14 h hb0) (k_464 h hb0) (by decide) rfl rfl rfl (by decide) (by decide), (k_465 h hb0), (k_466 h hb0)⟩ (xpV hb0 hS hz (va_P.sub hP [3] rfl) (va_recv hK hP (ci := 2) (q0 := 3) rfl rfl)) rfl rfl hl.1 rfl (lv_room (Nat.le_of_ble_eq_true rfl)) dX5_roll_22 ⟨(Nat.le_of_ble_eq_true rfl), (Nat.le_of_ble_eq_true rfl)⟩) ?_
    exact W.iret hx hb hr (fun t ht _ => ⟨rfl, ht⟩) (fun q z => nomatch z) dX5_roll_25
set_option maxHeartbeats 4000000 in
set_option maxRecDepth 100000 in
theorem t_roll_C {l : Launch} {s0 : State} {a0 : Array Value} {dC : Nat → ClassId} {dI : Nat → Nat → Nat} {cA : Nat → ClassId} (h : xC l s0 a0 dC dI cA) (b gr br : Nat) (wr ca : Int32) (ro pl : Nat) (z1 z2 z3 p1 : Int32) (f : Nat → Option Nat) (p2 : Int32) (a : Nat) (v : Int32) (hm : z1 = 0 ∨ z1 = 1) (ht : ¬ z1 = 0) (h0 : ¬ p1 < 0) (h1 : p1 < z3) (hi : vp_in p1 19) (hf : f p1.toNatClampNeg = some a) : xt_Met l yX5_roll [Cond.code yX5_roll cX5_roll 5 (some .int)] ({ frames := 9, cells := 1, slots := 8, locals := 170 } : Room) (xP s0 (dC, dI) [.ref b, .int p1, .int p2] [(b, .inr (5, [.ref ro, .ref gr, .ref br, .int wr, .int ca])), (br, .inr (1, [.ref pl, .int z1, .int z2, .int z3])), (pl, .inl (cA 8, 19, .inr (.inr (.inr (.inr f))))), (a, .inr (0, [.int v]))]) "java/lang/ClassCastException" 1 8 := by
  refine xt_ofW (cc := cX5_roll) (maxL := 5) (ret := (some .int)) (by decide) rfl ?_
  intro p e s m args below meth c s₁ B hml hout hv
  obtain ⟨rfl, hb0, hP⟩ := hv
  have hx := B.exec
  have hb := B.bytes
  have hr := B.returns
  have hown : s.vm.findClass RX5 = some m.cls := findClass_of_methodNamed B.named
  have hlocks := B.notSynchronized
  have hK := h.K hb0
  have hS : va_S (fun _ : Nat => False) s.heap s.heap [] := va_S.rf
  have hz : ∀ q : Nat, (fun _ : Nat => False) q → s0.heap.size ≤ q := fun _ z => z.elim
  have hl := lv_entry ([.ref b, .int p1, .int p2]) (n := 5) (Nat.le_of_ble_eq_true rfl)
  rw [lg_entry_eq]
  generalize (lg_sl ([.ref b, .int p1, .int p2]) ++ List.replicate (5 - (lg_sl ([.ref b, .int p1, .int p2])).length) Slot.unset).toArray = ls at hl ⊢
  have hl : lv_has ls 5 [(0, .ref b), (1, .int p1), (2, .int p2)] := hl
  refine lv_aload_n hx hb dX5_roll_0 rfl (lv_at hl 0 rfl) ?_
  refine lv_iload_n hx hb dX5_roll_1 rfl (lv_at hl 1 rfl) ?_
  refine xr_1 (va_runV (As := [.int p1]) (rest := []) ⟨hx, hb, hml, hown, xTs⟩ (c_boxAt h b gr br wr ca ro pl z1 z2 z3 p1 f a hm ht h0 h1 hi hf) ⟨xB (n := 1) (k_428 h hb0) (k_1 h hb0) (k_425 h hb0) (by decide) rfl rfl rfl (by decide) (by decide), (k_427 h hb0), (ks_2 h hb0)⟩ (xpV hb0 hS hz (va_P.sub hP [0, 1, 2] rfl) (va_recv hK hP (ci := 5) (q0 := 0) rfl rfl)) rfl rfl hl.1 rfl (lv_room (Nat.le_of_ble_eq_true rfl)) dX5_roll_2 ⟨(Nat.le_of_ble_eq_true rfl), (Nat.le_of_ble_eq_true rfl)⟩) ?_
  refine lv_astore_n (lv' := [(3, .ref a), (0, .ref b), (1, .int p1), (2, .int p2)]) hx hb dX5_roll_5 rfl hl (by decide) rfl (fun ls hl => ?_)
  refine lv_aload_n hx hb dX5_roll_6 rfl (lv_at hl 0 rfl) ?_
  refine va_instNo (C := RX0) hx hb hown (k_385 h hb0) (xNoDisc h hb0) (va_recv hK hP (ci := 0) (q0 := 3) rfl rfl) dX5_roll_7 ?_
  refine lv_if_eq (tgt := 26) hx hb dX5_roll_10 (by decide) (fun c_1 => ?_) (fun c_1 => ?_)
  · exact xt_throwS (own := RX5) (names := ["java/lang/RuntimeException", "java/lang/Exception"]) hx hb h.1 hown (by decide) (by decide) (k_468 h hb0) (k_16 h hb0) (k_407 h hb0) (xo_126 h hb0) (hl.1.trans hml.symm) hout hlocks dX5_roll_26 dX5_roll_29 dX5_roll_30 dX5_roll_32 dX5_roll_35 (by decide) (by decide) (by decide) (by decide) (by decide) (by decide)
  · exact absurd rfl c_1
theorem xI64z {x : Int32} (h : x.toInt64 = 0) : x = 0 := by
  have h1 : x.toInt64.toInt = 0 := by rw [h]; rfl
  rw [Int32.toInt_toInt64] at h1
  exact Int32.toInt_inj.mp h1
set_option maxHeartbeats 4000000 in
set_option maxRecDepth 100000 in
theorem c_divide {l : Launch} {s0 : State} {a0 : Array Value} {dC : Nat → ClassId} {dI : Nat → Nat → Nat} {cA : Nat → ClassId} (h : xC l s0 a0 dC dI cA) (b : Nat) (p1 p2 : Int32) (p3 : Int32) (hc : ¬ p2 = 0) : Met l yX5_divide [Cond.code yX5_divide cX5_divide 4 (some .int)] ({ frames := 1, cells := 0, slots := 0, locals := 40 } : Room) (xP s0 (dC, dI) [.ref b, .int p1, .int p2, .int p3] []) (xR (some (.int (if p3 = 0 then p1 / p2 else p1 - p1 / p2 * p2)))) 0 0 (fun _ => False) := by
  refine Met.ofW (cc := cX5_divide) (maxL := 4) (ret := (some .int)) (by decide) rfl ?_
  intro p e s m args below meth c s₁ B hml hv
  obtain ⟨rfl, hb0, hP⟩ := hv
  have hx := B.exec
  have hb := B.bytes
  have hr := B.returns
  have hown : s.vm.findClass RX5 = some m.cls := findClass_of_methodNamed B.named
  have hlocks := B.notSynchronized
  have hK := h.K hb0
  have hS : va_S (fun _ : Nat => False) s.heap s.heap [] := va_S.rf
  have hz : ∀ q : Nat, (fun _ : Nat => False) q → s0.heap.size ≤ q := fun _ z => z.elim
  have hl := lv_entry ([.ref b, .int p1, .int p2, .int p3]) (n := 4) (Nat.le_of_ble_eq_true rfl)
  rw [lg_entry_eq]
  generalize (lg_sl ([.ref b, .int p1, .int p2, .int p3]) ++ List.replicate (4 - (lg_sl ([.ref b, .int p1, .int p2, .int p3])).length) Slot.unset).toArray = ls at hl ⊢
  have hl : lv_has ls 4 [(0, .ref b), (1, .int p1), (2, .int p2), (3, .int p3)] := hl
  refine lv_iload_n hx hb dX5_divide_0 rfl (lv_at hl 2 rfl) ?_
  refine lv_i2l hx hb dX5_divide_1 rfl ?_
  refine xr_0 (va_runS (As := [.long p2.toInt64]) (rest := []) ⟨hx, hb, hml, hown, xTs⟩ (c_needDivisor h _ (fun q => hc (xI64z q))) ⟨xB (n := 1) (k_493 h hb0) (k_1 h hb0) (k_491 h hb0) (by decide) rfl rfl rfl (by decide) (by decide), (k_492 h hb0)⟩ (xpS hb0 hS hz (va_P.sub hP [] rfl)) rfl rfl hl.1 rfl (lv_room (Nat.le_of_ble_eq_true rfl)) dX5_divide_2 ⟨(Nat.le_of_ble_eq_true rfl), (Nat.le_of_ble_eq_true rfl)⟩) ?_
  refine lv_iload_n hx hb dX5_divide_5 rfl (lv_at hl 3 rfl) ?_
  refine lv_if_eq (tgt := 15) hx hb dX5_divide_6 (by decide) (fun c_1 => ?_) (fun c_1 => ?_)
  · refine lv_iload_n hx hb dX5_divide_15 rfl (lv_at hl 1 rfl) ?_
    refine lv_iload_n hx hb dX5_divide_16 rfl (lv_at hl 2 rfl) ?_
    refine lv_idiv hx hb dX5_divide_17 hc ?_
    exact W.iret hx hb hr (fun t ht _ => ⟨by rw [if_pos c_1], ht⟩) (fun q z => nomatch z) dX5_divide_18
  · refine lv_iload_n hx hb dX5_divide_9 rfl (lv_at hl 1 rfl) ?_
    refine lv_iload_n hx hb dX5_divide_10 rfl (lv_at hl 2 rfl) ?_
    refine lv_irem hx hb dX5_divide_11 hc ?_
    refine lv_goto (tgt := 18) hx hb dX5_divide_12 (by decide) ?_
    exact W.iret hx hb hr (fun t ht _ => ⟨by rw [if_neg c_1], ht⟩) (fun q z => nomatch z) dX5_divide_18
set_option maxHeartbeats 4000000 in
set_option maxRecDepth 100000 in
theorem t_divide_Z {l : Launch} {s0 : State} {a0 : Array Value} {dC : Nat → ClassId} {dI : Nat → Nat → Nat} {cA : Nat → ClassId} (h : xC l s0 a0 dC dI cA) (b : Nat) (p1 p2 : Int32) (p3 : Int32) (hc : p2 = 0) : xt_Met l yX5_divide [Cond.code yX5_divide cX5_divide 4 (some .int)] ({ frames := 8, cells := 1, slots := 8, locals := 140 } : Room) (xP s0 (dC, dI) [.ref b, .int p1, .int p2, .int p3] []) "java/lang/ArithmeticException" 1 8 := by
  refine xt_ofW (cc := cX5_divide) (maxL := 4) (ret := (some .int)) (by decide) rfl ?_
  intro p e s m args below meth c s₁ B hml hout hv
  obtain ⟨rfl, hb0, hP⟩ := hv
  have hx := B.exec
  have hb := B.bytes
  have hr := B.returns
  have hown : s.vm.findClass RX5 = some m.cls := findClass_of_methodNamed B.named
  have hlocks := B.notSynchronized
  have hK := h.K hb0
  have hS : va_S (fun _ : Nat => False) s.heap s.heap [] := va_S.rf
  have hz : ∀ q : Nat, (fun _ : Nat => False) q → s0.heap.size ≤ q := fun _ z => z.elim
  have hl := lv_entry ([.ref b, .int p1, .int p2, .int p3]) (n := 4) (Nat.le_of_ble_eq_true rfl)
  rw [lg_entry_eq]
  generalize (lg_sl ([.ref b, .int p1, .int p2, .int p3]) ++ List.replicate (4 - (lg_sl ([.ref b, .int p1, .int p2, .int p3])).length) Slot.unset).toArray = ls at hl ⊢
  have hl : lv_has ls 4 [(0, .ref b), (1, .int p1), (2, .int p2), (3, .int p3)] := hl
  refine lv_iload_n hx hb dX5_divide_0 rfl (lv_at hl 2 rfl) ?_
  refine lv_i2l hx hb dX5_divide_1 rfl ?_
  exact xt_callS (As := [.long p2.toInt64]) (rest := []) ⟨hx, hb, hml, hown, xTs⟩ (t_needDivisor h _ (by rw [hc]; rfl)) ⟨xB (n := 1) (k_493 h hb0) (k_1 h hb0) (k_491 h hb0) (by decide) rfl rfl rfl (by decide) (by decide), (k_492 h hb0)⟩ (xpS hb0 hS hz (va_P.sub hP [] rfl)) rfl rfl hl.1 rfl (lv_room (Nat.le_of_ble_eq_true rfl)) dX5_divide_2 ⟨(Nat.le_of_ble_eq_true rfl), (Nat.le_of_ble_eq_true rfl)⟩ (fun q ce H1 h1 h2 h3 h4 h5 => xt_out hout hlocks h1 h2 h3 (Nat.le_of_ble_eq_true rfl) (Nat.le_of_ble_eq_true rfl))
set_option maxHeartbeats 4000000 in
set_option maxRecDepth 100000 in
theorem c_divideLong {l : Launch} {s0 : State} {a0 : Array Value} {dC : Nat → ClassId} {dI : Nat → Nat → Nat} {cA : Nat → ClassId} (h : xC l s0 a0 dC dI cA) (b : Nat) (p1 p2 : Int64) (p3 : Int32) (hc : ¬ p2 = 0) : Met l yX5_divideLong [Cond.code yX5_divideLong cX5_divideLong 6 (some .long)] ({ frames := 1, cells := 0, slots := 0, locals := 40 } : Room) (xP s0 (dC, dI) [.ref b, .long p1, .long p2, .int p3] []) (xR (some (.long (if p3 = 0 then p1 / p2 else p1 - p1 / p2 * p2)))) 0 0 (fun _ => False) := by
  refine Met.ofW (cc := cX5_divideLong) (maxL := 6) (ret := (some .long)) (by decide) rfl ?_
  intro p e s m args below meth c s₁ B hml hv
  obtain ⟨rfl, hb0, hP⟩ := hv
  have hx := B.exec
  have hb := B.bytes
  have hr := B.returns
  have hown : s.vm.findClass RX5 = some m.cls := findClass_of_methodNamed B.named
  have hlocks := B.notSynchronized
  have hK := h.K hb0
  have hS : va_S (fun _ : Nat => False) s.heap s.heap [] := va_S.rf
  have hz : ∀ q : Nat, (fun _ : Nat => False) q → s0.heap.size ≤ q := fun _ z => z.elim
  have hl := lv_entry ([.ref b, .long p1, .long p2, .int p3]) (n := 6) (Nat.le_of_ble_eq_true rfl)
  rw [lg_entry_eq]
  generalize (lg_sl ([.ref b, .long p1, .long p2, .int p3]) ++ List.replicate (6 - (lg_sl ([.ref b, .long p1, .long p2, .int p3])).length) Slot.unset).toArray = ls at hl ⊢
  have hl : lv_has ls 6 [(0, .ref b), (1, .long p1), (3, .long p2), (5, .int p3)] := hl
  refine lv_lload_n hx hb dX5_divideLong_0 rfl (lv_at hl 2 rfl) ?_
  refine xr_0 (va_runS (As := [.long p2]) (rest := []) ⟨hx, hb, hml, hown, xTs⟩ (c_needDivisor h _ hc) ⟨xB (n := 1) (k_493 h hb0) (k_1 h hb0) (k_491 h hb0) (by decide) rfl rfl rfl (by decide) (by decide), (k_492 h hb0)⟩ (xpS hb0 hS hz (va_P.sub hP [] rfl)) rfl rfl hl.1 rfl (lv_room (Nat.le_of_ble_eq_true rfl)) dX5_divideLong_1 ⟨(Nat.le_of_ble_eq_true rfl), (Nat.le_of_ble_eq_true rfl)⟩) ?_
  refine lv_iload hx hb dX5_divideLong_4 (lv_at hl 3 rfl) ?_
  refine lv_if_eq (tgt := 15) hx hb dX5_divideLong_6 (by decide) (fun c_1 => ?_) (fun c_1 => ?_)
  · refine lv_lload_n hx hb dX5_divideLong_15 rfl (lv_at hl 1 rfl) ?_
    refine lv_lload_n hx hb dX5_divideLong_16 rfl (lv_at hl 2 rfl) ?_
    refine lv_ldiv hx hb dX5_divideLong_17 hc ?_
    exact W.lret hx hb hr (fun t ht _ => ⟨by rw [if_pos c_1], ht⟩) (fun q z => nomatch z) dX5_divideLong_18
  · refine lv_lload_n hx hb dX5_divideLong_9 rfl (lv_at hl 1 rfl) ?_
    refine lv_lload_n hx hb dX5_divideLong_10 rfl (lv_at hl 2 rfl) ?_
    refine lv_lrem hx hb dX5_divideLong_11 hc ?_
    refine lv_goto (tgt := 18) hx hb dX5_divideLong_12 (by decide) ?_
    exact W.lret hx hb hr (fun t ht _ => ⟨by rw [if_neg c_1], ht⟩) (fun q z => nomatch z) dX5_divideLong_18
set_option maxHeartbeats 4000000 in
set_option maxRecDepth 100000 in
theorem t_divideLong_Z {l : Launch} {s0 : State} {a0 : Array Value} {dC : Nat → ClassId} {dI : Nat → Nat → Nat} {cA : Nat → ClassId} (h : xC l s0 a0 dC dI cA) (b : Nat) (p1 p2 : Int64) (p3 : Int32) (hc : p2 = 0) : xt_Met l yX5_divideLong [Cond.code yX5_divideLong cX5_divideLong 6 (some .long)] ({ frames := 8, cells := 1, slots := 8, locals := 140 } : Room) (xP s0 (dC, dI) [.ref b, .long p1, .long p2, .int p3] []) "java/lang/ArithmeticException" 1 8 := by
  refine xt_ofW (cc := cX5_divideLong) (maxL := 6) (ret := (some .long)) (by decide) rfl ?_
  intro p e s m args below meth c s₁ B hml hout hv
  obtain ⟨rfl, hb0, hP⟩ := hv
  have hx := B.exec
  have hb := B.bytes
  have hr := B.returns
  have hown : s.vm.findClass RX5 = some m.cls := findClass_of_methodNamed B.named
  have hlocks := B.notSynchronized
  have hK := h.K hb0
  have hS : va_S (fun _ : Nat => False) s.heap s.heap [] := va_S.rf
  have hz : ∀ q : Nat, (fun _ : Nat => False) q → s0.heap.size ≤ q := fun _ z => z.elim
  have hl := lv_entry ([.ref b, .long p1, .long p2, .int p3]) (n := 6) (Nat.le_of_ble_eq_true rfl)
  rw [lg_entry_eq]
  generalize (lg_sl ([.ref b, .long p1, .long p2, .int p3]) ++ List.replicate (6 - (lg_sl ([.ref b, .long p1, .long p2, .int p3])).length) Slot.unset).toArray = ls at hl ⊢
  have hl : lv_has ls 6 [(0, .ref b), (1, .long p1), (3, .long p2), (5, .int p3)] := hl
  refine lv_lload_n hx hb dX5_divideLong_0 rfl (lv_at hl 2 rfl) ?_
  exact xt_callS (As := [.long p2]) (rest := []) ⟨hx, hb, hml, hown, xTs⟩ (t_needDivisor h _ hc) ⟨xB (n := 1) (k_493 h hb0) (k_1 h hb0) (k_491 h hb0) (by decide) rfl rfl rfl (by decide) (by decide), (k_492 h hb0)⟩ (xpS hb0 hS hz (va_P.sub hP [] rfl)) rfl rfl hl.1 rfl (lv_room (Nat.le_of_ble_eq_true rfl)) dX5_divideLong_1 ⟨(Nat.le_of_ble_eq_true rfl), (Nat.le_of_ble_eq_true rfl)⟩ (fun q ce H1 h1 h2 h3 h4 h5 => xt_out hout hlocks h1 h2 h3 (Nat.le_of_ble_eq_true rfl) (Nat.le_of_ble_eq_true rfl))
set_option maxHeartbeats 4000000 in
set_option maxRecDepth 100000 in
theorem t_raise_N {l : Launch} {s0 : State} {a0 : Array Value} {dC : Nat → ClassId} {dI : Nat → Nat → Nat} {cA : Nat → ClassId} (h : xC l s0 a0 dC dI cA) (b : Nat) (p1 : Int32) (ht : p1 = 0) : xt_Met l yX5_raise [Cond.code yX5_raise cX5_raise 2 (some .int)] ({ frames := 8, cells := 1, slots := 8, locals := 140 } : Room) (xP s0 (dC, dI) [.ref b, .int p1] []) "java/lang/NullPointerException" 1 8 := by
  refine xt_ofW (cc := cX5_raise) (maxL := 2) (ret := (some .int)) (by decide) rfl ?_
  intro p e s m args below meth c s₁ B hml hout hv
  obtain ⟨rfl, hb0, hP⟩ := hv
  have hx := B.exec
  have hb := B.bytes
  have hr := B.returns
  have hown : s.vm.findClass RX5 = some m.cls := findClass_of_methodNamed B.named
  have hlocks := B.notSynchronized
  have hK := h.K hb0
  have hS : va_S (fun _ : Nat => False) s.heap s.heap [] := va_S.rf
  have hz : ∀ q : Nat, (fun _ : Nat => False) q → s0.heap.size ≤ q := fun _ z => z.elim
  have hl := lv_entry ([.ref b, .int p1]) (n := 2) (Nat.le_of_ble_eq_true rfl)
  rw [lg_entry_eq]
  generalize (lg_sl ([.ref b, .int p1]) ++ List.replicate (2 - (lg_sl ([.ref b, .int p1])).length) Slot.unset).toArray = ls at hl ⊢
  have hl : lv_has ls 2 [(0, .ref b), (1, .int p1)] := hl
  refine lv_iload_n hx hb dX5_raise_0 rfl (lv_at hl 1 rfl) ?_
  exact xt_callS (As := [.int p1]) (rest := []) ⟨hx, hb, hml, hown, xTs⟩ (t_needThere h _ ht) ⟨xB (n := 1) (k_140 h hb0) (k_1 h hb0) (k_138 h hb0) (by decide) rfl rfl rfl (by decide) (by decide), (k_139 h hb0)⟩ (xpS hb0 hS hz (va_P.sub hP [] rfl)) rfl rfl hl.1 rfl (lv_room (Nat.le_of_ble_eq_true rfl)) dX5_raise_1 ⟨(Nat.le_of_ble_eq_true rfl), (Nat.le_of_ble_eq_true rfl)⟩ (fun q ce H1 h1 h2 h3 h4 h5 => xt_out hout hlocks h1 h2 h3 (Nat.le_of_ble_eq_true rfl) (Nat.le_of_ble_eq_true rfl))
set_option maxHeartbeats 4000000 in
set_option maxRecDepth 100000 in
theorem t_raise_Z {l : Launch} {s0 : State} {a0 : Array Value} {dC : Nat → ClassId} {dI : Nat → Nat → Nat} {cA : Nat → ClassId} (h : xC l s0 a0 dC dI cA) (b : Nat) (p1 : Int32) (ht : ¬ p1 = 0) : xt_Met l yX5_raise [Cond.code yX5_raise cX5_raise 2 (some .int)] ({ frames := 8, cells := 1, slots := 8, locals := 140 } : Room) (xP s0 (dC, dI) [.ref b, .int p1] []) "java/lang/ArithmeticException" 1 8 := by
  refine xt_ofW (cc := cX5_raise) (maxL := 2) (ret := (some .int)) (by decide) rfl ?_
  intro p e s m args below meth c s₁ B hml hout hv
  obtain ⟨rfl, hb0, hP⟩ := hv
  have hx := B.exec
  have hb := B.bytes
  have hr := B.returns
  have hown : s.vm.findClass RX5 = some m.cls := findClass_of_methodNamed B.named
  have hlocks := B.notSynchronized
  have hK := h.K hb0
  have hS : va_S (fun _ : Nat => False) s.heap s.heap [] := va_S.rf
  have hz : ∀ q : Nat, (fun _ : Nat => False) q → s0.heap.size ≤ q := fun _ z => z.elim
  have hl := lv_entry ([.ref b, .int p1]) (n := 2) (Nat.le_of_ble_eq_true rfl)
  rw [lg_entry_eq]
  generalize (lg_sl ([.ref b, .int p1]) ++ List.replicate (2 - (lg_sl ([.ref b, .int p1])).length) Slot.unset).toArray = ls at hl ⊢
  have hl : lv_has ls 2 [(0, .ref b), (1, .int p1)] := hl
  refine lv_iload_n hx hb dX5_raise_0 rfl (lv_at hl 1 rfl) ?_
  refine xr_0 (va_runS (As := [.int p1]) (rest := []) ⟨hx, hb, hml, hown, xTs⟩ (c_needThere h _ ht) ⟨xB (n := 1) (k_140 h hb0) (k_1 h hb0) (k_138 h hb0) (by decide) rfl rfl rfl (by decide) (by decide), (k_139 h hb0)⟩ (xpS hb0 hS hz (va_P.sub hP [] rfl)) rfl rfl hl.1 rfl (lv_room (Nat.le_of_ble_eq_true rfl)) dX5_raise_1 ⟨(Nat.le_of_ble_eq_true rfl), (Nat.le_of_ble_eq_true rfl)⟩) ?_
  exact xt_throwS (own := RX5) (names := ["java/lang/RuntimeException", "java/lang/Exception"]) hx hb h.1 hown (by decide) (by decide) (k_494 h hb0) (k_17 h hb0) (k_524 h hb0) (xo_135 h hb0) (hl.1.trans hml.symm) hout hlocks dX5_raise_4 dX5_raise_7 dX5_raise_8 dX5_raise_10 dX5_raise_13 (by decide) (by decide) (by decide) (by decide) (by decide) (by decide)
