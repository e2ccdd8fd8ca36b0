/-! The reference. Its methods change their own cells alone. -/
def fz (f : Nat → Int64) (k i : Nat) : Nat → Int64 := fun j => if 40 * k ≤ j ∧ j < 40 * k + i then 0 else f j
theorem fz_0 (f : Nat → Int64) (k : Nat) : fz f k 0 = f := by funext j; simp [fz]; omega
theorem fz_s (f : Nat → Int64) (k i : Nat) : vp_updL (fz f k i) (40 * k + i) 0 = fz f k (i + 1) := by
  funext j
  by_cases h : j = 40 * k + i
  · simp [vp_updL, fz, h]
  · by_cases g : 40 * k ≤ j ∧ j < 40 * k + i
    · simp [vp_updL, fz, h, g, show j < 40 * k + (i + 1) by omega]
    · have g2 : ¬ (40 * k ≤ j ∧ j < 40 * k + (i + 1)) := by omega
      simp only [vp_updL, fz, if_neg h, if_neg g, if_neg g2]
theorem ix40 (k i : Nat) : 40 * nI k + nI i = nI (40 * k + i) := by rw [show (40 : Int32) = nI 40 from rfl, pk_mul, nI_add]
/-- the first n are 0 -/
def iz (f : Nat → Int32) (n : Nat) : Nat → Int32 := fun j => if j < n then 0 else f j
theorem iz_0 (f : Nat → Int32) : iz f 0 = f := by funext j; simp [iz]
theorem iz_s (f : Nat → Int32) (i : Nat) : upd (iz f i) i 0 = iz f (i + 1) := by
  funext j
  by_cases h : j = i
  · simp [upd, iz, h]
  · by_cases g : j < i
    · simp [upd, iz, h, g, show j < i + 1 by omega]
    · simp [upd, iz, h, g, show ¬ j < i + 1 by omega]
set_option maxHeartbeats 4000000 in
set_option maxRecDepth 100000 in
theorem c_thrown {l : Launch} {s0 : State} {a0 : Array Value} {dC : Nat → ClassId} {dI : Nat → Nat → Nat} {cA : Nat → ClassId} (h : xC l s0 a0 dC dI cA) (mo mr ml ms mv : Nat) (th wr gm gh gw bm bd bc ca : Int32)  : Met l yX6_thrown [Cond.code yX6_thrown cX6_thrown 1 (some .int)] ({ frames := 0, cells := 0, slots := 0, locals := 0 } : Room) (xP s0 (dC, dI) [.ref mo] [(mo, .inr (6, [.int th, .ref mr, .ref ml, .int wr, .int gm, .int gh, .int gw, .int bm, .int bd, .int bc, .int ca, .ref ms, .ref mv]))]) (xR (some (.int th))) 0 0 (fun _ => False) := by
  refine Met.ofW (cc := cX6_thrown) (maxL := 1) (ret := (some .int)) (by decide) rfl ?_
  intro p e s m args below meth c s₁ B hml hv
  obtain ⟨rfl, hb0, hP⟩ := hv
  have hx := B.exec
  have hb := B.bytes
  have hr := B.returns
  have hown : s.vm.findClass RX6 = some m.cls := findClass_of_methodNamed B.named
  have hlocks := B.notSynchronized
  have hK := h.K hb0
  have hS : va_S (fun _ : Nat => False) s.heap s.heap [] := va_S.rf
  have hz : ∀ q : Nat, (fun _ : Nat => False) q → s0.heap.size ≤ q := fun _ z => z.elim
  have hl := lv_entry ([.ref mo]) (n := 1) (Nat.le_of_ble_eq_true rfl)
  rw [lg_entry_eq]
  generalize (lg_sl ([.ref mo]) ++ List.replicate (1 - (lg_sl ([.ref mo])).length) Slot.unset).toArray = ls at hl ⊢
  have hl : lv_has ls 1 [(0, .ref mo)] := hl
  refine lv_aload_n hx hb dX6_thrown_0 rfl (lv_at hl 0 rfl) ?_
  refine va_get (D := (dC, dI)) (ci := 6) (v := .int th) (C := RX6) (T := TX6) (N := 13) hx hb (ly_6 h hb0) (fun _ z => z) hown hK hP 0 rfl rfl 0 (by decide) (k_531 h hb0) (fun _ z => z) rfl dX6_thrown_1 ?_
  exact W.iret hx hb hr (fun t ht _ => ⟨rfl, ht⟩) (fun q z => nomatch z) dX6_thrown_4
set_option maxHeartbeats 4000000 in
set_option maxRecDepth 100000 in
theorem c_fails {l : Launch} {s0 : State} {a0 : Array Value} {dC : Nat → ClassId} {dI : Nat → Nat → Nat} {cA : Nat → ClassId} (h : xC l s0 a0 dC dI cA) (mo mr ml ms mv : Nat) (th wr gm gh gw bm bd bc ca : Int32) (x : Int32) (sz : Nat)  : Met l yX6_fails [Cond.code yX6_fails cX6_fails 2 (some .int)] ({ frames := 0, cells := 0, slots := 0, locals := 0 } : Room) (xPM s0 (dC, dI) [.ref mo, .int x] [] [(mo, .inr (6, [.int th, .ref mr, .ref ml, .int wr, .int gm, .int gh, .int gw, .int bm, .int bd, .int bc, .int ca, .ref ms, .ref mv]))] sz) (xQM (dC, dI) (va_A [(mo, .inr (6, [.int th, .ref mr, .ref ml, .int wr, .int gm, .int gh, .int gw, .int bm, .int bd, .int bc, .int ca, .ref ms, .ref mv]))] sz) (fun r w1 => r = some (.int 0) ∧ w1 = [(mo, .inr (6, [.int x, .ref mr, .ref ml, .int wr, .int gm, .int gh, .int gw, .int bm, .int bd, .int bc, .int ca, .ref ms, .ref mv]))])) 0 0 (va_A [(mo, .inr (6, [.int th, .ref mr, .ref ml, .int wr, .int gm, .int gh, .int gw, .int bm, .int bd, .int bc, .int ca, .ref ms, .ref mv]))] sz) := by
  refine Met.ofW (cc := cX6_fails) (maxL := 2) (ret := (some .int)) (by decide) rfl ?_
  intro p e s m args below meth c s₁ B hml hv
  obtain ⟨rfl, rfl, hb0, hPr, hP, hD0⟩ := hv
  have hx := B.exec
  have hb := B.bytes
  have hr := B.returns
  have hown : s.vm.findClass RX6 = some m.cls := findClass_of_methodNamed B.named
  have hlocks := B.notSynchronized
  have hK := h.K hb0
  have hS : va_S (va_A [(mo, .inr (6, [.int th, .ref mr, .ref ml, .int wr, .int gm, .int gh, .int gw, .int bm, .int bd, .int bc, .int ca, .ref ms, .ref mv]))] s.heap.size) s.heap s.heap [] := va_S.rf
  obtain ⟨A, hAe, hD, hA, hz, hRo, hwk, hnR⟩ := xM_start hb0 hPr hP hD0
  rw [hAe] at hS ⊢
  have hl := lv_entry ([.ref mo, .int x]) (n := 2) (Nat.le_of_ble_eq_true rfl)
  rw [lg_entry_eq]
  generalize (lg_sl ([.ref mo, .int x]) ++ List.replicate (2 - (lg_sl ([.ref mo, .int x])).length) Slot.unset).toArray = ls at hl ⊢
  have hl : lv_has ls 2 [(0, .ref mo), (1, .int x)] := hl
  refine lv_aload_n hx hb dX6_fails_0 rfl (lv_at hl 0 rfl) ?_
  refine lv_iload_n hx hb dX6_fails_1 rfl (lv_at hl 1 rfl) ?_
  refine va_put (D := (dC, dI)) (ci := 6) (v := .int x) (ty := .int) (C := RX6) (T := TX6) (N := 13) hx hb (ly_6 h hb0) (fun _ z => z) tyX6 tyX6_ok nmX6 hown hK hP hD hS 0 rfl rfl 0 (by decide) (k_531 h hb0) (fun _ z => z) rfl (by decide +kernel) rfl rfl (Nat.le_of_ble_eq_true rfl) dX6_fails_2 (fun H locs hP hD hS => ?_)
  have hP : va_P (dC, dI) vwCl [(mo, .inr (6, [.int x, .ref mr, .ref ml, .int wr, .int gm, .int gh, .int gw, .int bm, .int bd, .int bc, .int ca, .ref ms, .ref mv]))] H := hP
  have hD : va_D A [(mo, .inr (6, [.int x, .ref mr, .ref ml, .int wr, .int gm, .int gh, .int gw, .int bm, .int bd, .int bc, .int ca, .ref ms, .ref mv]))] := hD
  refine lv_iconst (v := 0) hx hb dX6_fails_5 (by decide) ?_
  exact W.iret hx hb hr (fun t ht _ => ⟨(some (.int 0)), _, rfl, ⟨rfl, rfl⟩, by rw [ht]; exact hP, hD, hS.F ht⟩) (fun q z => hS.2.2 q z) dX6_fails_6
set_option maxHeartbeats 4000000 in
set_option maxRecDepth 100000 in
theorem m_read_c {l : Launch} {s0 : State} {a0 : Array Value} {dC : Nat → ClassId} {dI : Nat → Nat → Nat} {cA : Nat → ClassId} (h : xC l s0 a0 dC dI cA) (mo mr ml ms mv : Nat) (th wr gm gh gw bm bd bc ca : Int32) (n : Nat → Int32) (f : Nat → Int64) (K J : Nat) (p1 p2 p3 : Int32) (sz : Nat) (hKe : p1 &&& 7 = nI K) (hK8 : K < 8) (ht : ¬ p2 = 0) (h0 : ¬ p3 < 0) (h1 : p3 < n K) (hJ : 40 * nI K + p3 = nI J) (hJ3 : J < 320) : Met l yX6_read [Cond.code yX6_read cX6_read 5 (some .long)] ({ frames := 1, cells := 0, slots := 0, locals := 40 } : Room) (xPM s0 (dC, dI) [.ref mo, .int p1, .int p2, .int p3] [(ml, .inl (cA 0, 8, .inl n)), (mr, .inl (cA 1, 320, .inr (.inl f)))] [(mo, .inr (6, [.int th, .ref mr, .ref ml, .int wr, .int gm, .int gh, .int gw, .int bm, .int bd, .int bc, .int ca, .ref ms, .ref mv]))] sz) (xQM (dC, dI) (va_A [(mo, .inr (6, [.int th, .ref mr, .ref ml, .int wr, .int gm, .int gh, .int gw, .int bm, .int bd, .int bc, .int ca, .ref ms, .ref mv]))] sz) (fun r w1 => r = some (.long (f J)) ∧ w1 = [(mo, .inr (6, [.int 0, .ref mr, .ref ml, .int wr, .int gm, .int gh, .int gw, .int bm, .int bd, .int bc, .int ca, .ref ms, .ref mv]))])) 0 0 (va_A [(mo, .inr (6, [.int th, .ref mr, .ref ml, .int wr, .int gm, .int gh, .int gw, .int bm, .int bd, .int bc, .int ca, .ref ms, .ref mv]))] sz) := by
  refine Met.ofW (cc := cX6_read) (maxL := 5) (ret := (some .long)) (by decide) rfl ?_
  intro p e s m args below meth c s₁ B hml hv
  obtain ⟨rfl, rfl, hb0, hPr, hP, hD0⟩ := hv
  have hx := B.exec
  have hb := B.bytes
  have hr := B.returns
  have hown : s.vm.findClass RX6 = some m.cls := findClass_of_methodNamed B.named
  have hlocks := B.notSynchronized
  have hK := h.K hb0
  have hS : va_S (va_A [(mo, .inr (6, [.int th, .ref mr, .ref ml, .int wr, .int gm, .int gh, .int gw, .int bm, .int bd, .int bc, .int ca, .ref ms, .ref mv]))] s.heap.size) s.heap s.heap [] := va_S.rf
  obtain ⟨A, hAe, hD, hA, hz, hRo, hwk, hnR⟩ := xM_start hb0 hPr hP hD0
  rw [hAe] at hS ⊢
  have hl := lv_entry ([.ref mo, .int p1, .int p2, .int p3]) (n := 5) (Nat.le_of_ble_eq_true rfl)
  rw [lg_entry_eq]
  generalize (lg_sl ([.ref mo, .int p1, .int p2, .int p3]) ++ List.replicate (5 - (lg_sl ([.ref mo, .int p1, .int p2, .int p3])).length) Slot.unset).toArray = ls at hl ⊢
  have hl : lv_has ls 5 [(0, .ref mo), (1, .int p1), (2, .int p2), (3, .int p3)] := hl
  refine lv_aload_n hx hb dX6_read_0 rfl (lv_at hl 0 rfl) ?_
  refine lv_iconst (v := 0) hx hb dX6_read_1 (by decide) ?_
  refine va_put (D := (dC, dI)) (ci := 6) (v := .int 0) (ty := .int) (C := RX6) (T := TX6) (N := 13) hx hb (ly_6 h hb0) (fun _ z => z) tyX6 tyX6_ok nmX6 hown hK hP hD hS 0 rfl rfl 0 (by decide) (k_531 h hb0) (fun _ z => z) rfl (by decide +kernel) rfl rfl (Nat.le_of_ble_eq_true rfl) dX6_read_2 (fun H locs hP hD hS => ?_)
  have hP : va_P (dC, dI) vwCl [(mo, .inr (6, [.int 0, .ref mr, .ref ml, .int wr, .int gm, .int gh, .int gw, .int bm, .int bd, .int bc, .int ca, .ref ms, .ref mv]))] H := hP
  have hD : va_D A [(mo, .inr (6, [.int 0, .ref mr, .ref ml, .int wr, .int gm, .int gh, .int gw, .int bm, .int bd, .int bc, .int ca, .ref ms, .ref mv]))] := hD
  refine lv_iload_n hx hb dX6_read_5 rfl (lv_at hl 1 rfl) ?_
  refine lv_bipush (v := 7) hx hb dX6_read_6 (by decide) ?_
  refine lv_iand hx hb dX6_read_8 ?_
  rw [hKe]
  refine lv_istore (lv' := [(4, .int (nI K)), (0, .ref mo), (1, .int p1), (2, .int p2), (3, .int p3)]) hx hb dX6_read_9 hl (by decide) rfl (fun ls hl => ?_)
  refine lv_iload_n hx hb dX6_read_11 rfl (lv_at hl 3 rfl) ?_
  refine lv_if_ne (tgt := 22) hx hb dX6_read_12 (by decide) (fun c_1 => ?_) (fun c_1 => ?_)
  · refine lv_iload_n hx hb dX6_read_22 rfl (lv_at hl 4 rfl) ?_
    refine lv_if_lt (tgt := 37) hx hb dX6_read_23 (by decide) (fun c_2 => ?_) (fun c_2 => ?_)
    · exact absurd c_2 h0
    · refine lv_iload_n hx hb dX6_read_26 rfl (lv_at hl 4 rfl) ?_
      refine lv_aload_n hx hb dX6_read_27 rfl (lv_at hl 1 rfl) ?_
      refine va_get (D := (dC, dI)) (ci := 6) (v := .ref ml) (C := RX6) (T := TX6) (N := 13) hx hb (ly_6 h hb0) (fun _ z => z) hown hK hP 0 rfl rfl 2 (by decide) (k_533 h hb0) (fun _ z => z) rfl dX6_read_28 ?_
      refine lv_iload hx hb dX6_read_31 (lv_at hl 0 rfl) ?_
      refine va_iald hx hb hK (hRo _ _ hS) 0 0 rfl rfl (vp_in_nI hK8 (by decide)) dX6_read_33 ?_
      rw [nI_clamp (Nat.lt_trans hK8 (by decide))]
      refine lv_icmp_lt (tgt := 44) hx hb dX6_read_34 (by decide) (fun c_3 => ?_) (fun c_3 => ?_)
      · refine lv_aload_n hx hb dX6_read_44 rfl (lv_at hl 1 rfl) ?_
        refine va_get (D := (dC, dI)) (ci := 6) (v := .ref mr) (C := RX6) (T := TX6) (N := 13) hx hb (ly_6 h hb0) (fun _ z => z) hown hK hP 0 rfl rfl 1 (by decide) (k_532 h hb0) (fun _ z => z) rfl dX6_read_45 ?_
        refine lv_bipush (v := 40) hx hb dX6_read_48 (by decide) ?_
        refine lv_iload hx hb dX6_read_50 (lv_at hl 0 rfl) ?_
        refine lv_imul hx hb dX6_read_52 ?_
        refine lv_iload_n hx hb dX6_read_53 rfl (lv_at hl 4 rfl) ?_
        refine lv_iadd hx hb dX6_read_54 ?_
        rw [hJ]
        refine va_lald hx hb hK (hRo _ _ hS) 1 1 rfl rfl (vp_in_nI hJ3 (by decide)) dX6_read_55 ?_
        rw [nI_clamp (Nat.lt_trans hJ3 (by decide))]
        exact W.lret hx hb hr (fun t ht _ => ⟨(some (.long (f J))), _, rfl, ⟨rfl, rfl⟩, by rw [ht]; exact hP, hD, hS.F ht⟩) (fun q z => hS.2.2 q z) dX6_read_56
      · exact absurd h1 c_3
  · exact absurd c_1 ht
set_option maxHeartbeats 4000000 in
set_option maxRecDepth 100000 in
theorem m_read_N {l : Launch} {s0 : State} {a0 : Array Value} {dC : Nat → ClassId} {dI : Nat → Nat → Nat} {cA : Nat → ClassId} (h : xC l s0 a0 dC dI cA) (mo mr ml ms mv : Nat) (th wr gm gh gw bm bd bc ca : Int32) (n : Nat → Int32) (K : Nat) (p1 p2 p3 : Int32) (sz : Nat) (hKe : p1 &&& 7 = nI K) (hK8 : K < 8) (ht : p2 = 0) : Met l yX6_read [Cond.code yX6_read cX6_read 5 (some .long)] ({ frames := 1, cells := 0, slots := 0, locals := 40 } : Room) (xPM s0 (dC, dI) [.ref mo, .int p1, .int p2, .int p3] [(ml, .inl (cA 0, 8, .inl n))] [(mo, .inr (6, [.int th, .ref mr, .ref ml, .int wr, .int gm, .int gh, .int gw, .int bm, .int bd, .int bc, .int ca, .ref ms, .ref mv]))] sz) (xQM (dC, dI) (va_A [(mo, .inr (6, [.int th, .ref mr, .ref ml, .int wr, .int gm, .int gh, .int gw, .int bm, .int bd, .int bc, .int ca, .ref ms, .ref mv]))] sz) (fun r w1 => r = some (.long 0) ∧ w1 = [(mo, .inr (6, [.int 1, .ref mr, .ref ml, .int wr, .int gm, .int gh, .int gw, .int bm, .int bd, .int bc, .int ca, .ref ms, .ref mv]))])) 0 0 (va_A [(mo, .inr (6, [.int th, .ref mr, .ref ml, .int wr, .int gm, .int gh, .int gw, .int bm, .int bd, .int bc, .int ca, .ref ms, .ref mv]))] sz) := by
  refine Met.ofW (cc := cX6_read) (maxL := 5) (ret := (some .long)) (by decide) rfl ?_
  intro p e s m args below meth c s₁ B hml hv
  obtain ⟨rfl, rfl, hb0, hPr, hP, hD0⟩ := hv
  have hx := B.exec
  have hb := B.bytes
  have hr := B.returns
  have hown : s.vm.findClass RX6 = some m.cls := findClass_of_methodNamed B.named
  have hlocks := B.notSynchronized
  have hK := h.K hb0
  have hS : va_S (va_A [(mo, .inr (6, [.int th, .ref mr, .ref ml, .int wr, .int gm, .int gh, .int gw, .int bm, .int bd, .int bc, .int ca, .ref ms, .ref mv]))] s.heap.size) s.heap s.heap [] := va_S.rf
  obtain ⟨A, hAe, hD, hA, hz, hRo, hwk, hnR⟩ := xM_start hb0 hPr hP hD0
  rw [hAe] at hS ⊢
  have hl := lv_entry ([.ref mo, .int p1, .int p2, .int p3]) (n := 5) (Nat.le_of_ble_eq_true rfl)
  rw [lg_entry_eq]
  generalize (lg_sl ([.ref mo, .int p1, .int p2, .int p3]) ++ List.replicate (5 - (lg_sl ([.ref mo, .int p1, .int p2, .int p3])).length) Slot.unset).toArray = ls at hl ⊢
  have hl : lv_has ls 5 [(0, .ref mo), (1, .int p1), (2, .int p2), (3, .int p3)] := hl
  refine lv_aload_n hx hb dX6_read_0 rfl (lv_at hl 0 rfl) ?_
  refine lv_iconst (v := 0) hx hb dX6_read_1 (by decide) ?_
  refine va_put (D := (dC, dI)) (ci := 6) (v := .int 0) (ty := .int) (C := RX6) (T := TX6) (N := 13) hx hb (ly_6 h hb0) (fun _ z => z) tyX6 tyX6_ok nmX6 hown hK hP hD hS 0 rfl rfl 0 (by decide) (k_531 h hb0) (fun _ z => z) rfl (by decide +kernel) rfl rfl (Nat.le_of_ble_eq_true rfl) dX6_read_2 (fun H locs hP hD hS => ?_)
  have hP : va_P (dC, dI) vwCl [(mo, .inr (6, [.int 0, .ref mr, .ref ml, .int wr, .int gm, .int gh, .int gw, .int bm, .int bd, .int bc, .int ca, .ref ms, .ref mv]))] H := hP
  have hD : va_D A [(mo, .inr (6, [.int 0, .ref mr, .ref ml, .int wr, .int gm, .int gh, .int gw, .int bm, .int bd, .int bc, .int ca, .ref ms, .ref mv]))] := hD
  refine lv_iload_n hx hb dX6_read_5 rfl (lv_at hl 1 rfl) ?_
  refine lv_bipush (v := 7) hx hb dX6_read_6 (by decide) ?_
  refine lv_iand hx hb dX6_read_8 ?_
  rw [hKe]
  refine lv_istore (lv' := [(4, .int (nI K)), (0, .ref mo), (1, .int p1), (2, .int p2), (3, .int p3)]) hx hb dX6_read_9 hl (by decide) rfl (fun ls hl => ?_)
  refine lv_iload_n hx hb dX6_read_11 rfl (lv_at hl 3 rfl) ?_
  refine lv_if_ne (tgt := 22) hx hb dX6_read_12 (by decide) (fun c_1 => ?_) (fun c_1 => ?_)
  · exact absurd ht c_1
  · refine lv_aload_n hx hb dX6_read_15 rfl (lv_at hl 1 rfl) ?_
    refine lv_iconst (v := 1) hx hb dX6_read_16 (by decide) ?_
    refine xm_of (wc := [(mo, .inr (6, [.int 0, .ref mr, .ref ml, .int wr, .int gm, .int gh, .int gw, .int bm, .int bd, .int bc, .int ca, .ref ms, .ref mv]))]) (wo := []) (va_runV (As := [.int 1]) (rest := []) ⟨hx, hb, hml, hown, xTs⟩ (c_fails h mo mr ml ms mv 0 wr gm gh gw bm bd bc ca 1 _) ⟨xB (n := 1) (k_582 h hb0) (k_5 h hb0) (k_579 h hb0) (by decide) rfl rfl rfl (by decide) (by decide), (k_581 h hb0), (ks_3 h hb0)⟩ (xpMV (wr := []) (wc := [(mo, .inr (6, [.int 0, .ref mr, .ref ml, .int wr, .int gm, .int gh, .int gw, .int bm, .int bd, .int bc, .int ca, .ref ms, .ref mv]))]) hb0 hS hz (va_P.sub hP [] rfl) (va_P.sub hP [0] rfl) (va_D.sub (xDD (xDl hD0) hD hz hnR) [1] rfl rfl) (va_recv hK hP (ci := 6) (q0 := 0) rfl rfl)) rfl rfl hl.1 rfl (lv_room (Nat.le_of_ble_eq_true rfl)) dX6_read_17 ⟨(Nat.le_of_ble_eq_true rfl), (Nat.le_of_ble_eq_true rfl)⟩) hP hD hS hA [0] [] rfl rfl rfl (by decide) (fun r w1 H locs hΦ hP hD hS => ?_)
    obtain ⟨rfl, rfl⟩ := hΦ
    have hP : va_P (dC, dI) vwCl [(mo, .inr (6, [.int 1, .ref mr, .ref ml, .int wr, .int gm, .int gh, .int gw, .int bm, .int bd, .int bc, .int ca, .ref ms, .ref mv]))] H := hP
    have hD : va_D A [(mo, .inr (6, [.int 1, .ref mr, .ref ml, .int wr, .int gm, .int gh, .int gw, .int bm, .int bd, .int bc, .int ca, .ref ms, .ref mv]))] := hD
    refine lv_i2l hx hb dX6_read_20 rfl ?_
    exact W.lret hx hb hr (fun t ht _ => ⟨(some (.long ((0 : Int32).toInt64))), _, rfl, ⟨rfl, rfl⟩, by rw [ht]; exact hP, hD, hS.F ht⟩) (fun q z => hS.2.2 q z) dX6_read_21
set_option maxHeartbeats 4000000 in
set_option maxRecDepth 100000 in
theorem m_read_A {l : Launch} {s0 : State} {a0 : Array Value} {dC : Nat → ClassId} {dI : Nat → Nat → Nat} {cA : Nat → ClassId} (h : xC l s0 a0 dC dI cA) (mo mr ml ms mv : Nat) (th wr gm gh gw bm bd bc ca : Int32) (n : Nat → Int32) (K : Nat) (p1 p2 p3 : Int32) (sz : Nat) (hKe : p1 &&& 7 = nI K) (hK8 : K < 8) (ht : ¬ p2 = 0) (hc : p3 < 0 ∨ ¬ p3 < n K) : Met l yX6_read [Cond.code yX6_read cX6_read 5 (some .long)] ({ frames := 1, cells := 0, slots := 0, locals := 40 } : Room) (xPM s0 (dC, dI) [.ref mo, .int p1, .int p2, .int p3] [(ml, .inl (cA 0, 8, .inl n))] [(mo, .inr (6, [.int th, .ref mr, .ref ml, .int wr, .int gm, .int gh, .int gw, .int bm, .int bd, .int bc, .int ca, .ref ms, .ref mv]))] sz) (xQM (dC, dI) (va_A [(mo, .inr (6, [.int th, .ref mr, .ref ml, .int wr, .int gm, .int gh, .int gw, .int bm, .int bd, .int bc, .int ca, .ref ms, .ref mv]))] sz) (fun r w1 => r = some (.long 0) ∧ w1 = [(mo, .inr (6, [.int 2, .ref mr, .ref ml, .int wr, .int gm, .int gh, .int gw, .int bm, .int bd, .int bc, .int ca, .ref ms, .ref mv]))])) 0 0 (va_A [(mo, .inr (6, [.int th, .ref mr, .ref ml, .int wr, .int gm, .int gh, .int gw, .int bm, .int bd, .int bc, .int ca, .ref ms, .ref mv]))] sz) := by
  refine Met.ofW (cc := cX6_read) (maxL := 5) (ret := (some .long)) (by decide) rfl ?_
  intro p e s m args below meth c s₁ B hml hv
  obtain ⟨rfl, rfl, hb0, hPr, hP, hD0⟩ := hv
  have hx := B.exec
  have hb := B.bytes
  have hr := B.returns
  have hown : s.vm.findClass RX6 = some m.cls := findClass_of_methodNamed B.named
  have hlocks := B.notSynchronized
  have hK := h.K hb0
  have hS : va_S (va_A [(mo, .inr (6, [.int th, .ref mr, .ref ml, .int wr, .int gm, .int gh, .int gw, .int bm, .int bd, .int bc, .int ca, .ref ms, .ref mv]))] s.heap.size) s.heap s.heap [] := va_S.rf
  obtain ⟨A, hAe, hD, hA, hz, hRo, hwk, hnR⟩ := xM_start hb0 hPr hP hD0
  rw [hAe] at hS ⊢
  have hl := lv_entry ([.ref mo, .int p1, .int p2, .int p3]) (n := 5) (Nat.le_of_ble_eq_true rfl)
  rw [lg_entry_eq]
  generalize (lg_sl ([.ref mo, .int p1, .int p2, .int p3]) ++ List.replicate (5 - (lg_sl ([.ref mo, .int p1, .int p2, .int p3])).length) Slot.unset).toArray = ls at hl ⊢
  have hl : lv_has ls 5 [(0, .ref mo), (1, .int p1), (2, .int p2), (3, .int p3)] := hl
  refine lv_aload_n hx hb dX6_read_0 rfl (lv_at hl 0 rfl) ?_
  refine lv_iconst (v := 0) hx hb dX6_read_1 (by decide) ?_
  refine va_put (D := (dC, dI)) (ci := 6) (v := .int 0) (ty := .int) (C := RX6) (T := TX6) (N := 13) hx hb (ly_6 h hb0) (fun _ z => z) tyX6 tyX6_ok nmX6 hown hK hP hD hS 0 rfl rfl 0 (by decide) (k_531 h hb0) (fun _ z => z) rfl (by decide +kernel) rfl rfl (Nat.le_of_ble_eq_true rfl) dX6_read_2 (fun H locs hP hD hS => ?_)
  have hP : va_P (dC, dI) vwCl [(mo, .inr (6, [.int 0, .ref mr, .ref ml, .int wr, .int gm, .int gh, .int gw, .int bm, .int bd, .int bc, .int ca, .ref ms, .ref mv]))] H := hP
  have hD : va_D A [(mo, .inr (6, [.int 0, .ref mr, .ref ml, .int wr, .int gm, .int gh, .int gw, .int bm, .int bd, .int bc, .int ca, .ref ms, .ref mv]))] := hD
  refine lv_iload_n hx hb dX6_read_5 rfl (lv_at hl 1 rfl) ?_
  refine lv_bipush (v := 7) hx hb dX6_read_6 (by decide) ?_
  refine lv_iand hx hb dX6_read_8 ?_
  rw [hKe]
  refine lv_istore (lv' := [(4, .int (nI K)), (0, .ref mo), (1, .int p1), (2, .int p2), (3, .int p3)]) hx hb dX6_read_9 hl (by decide) rfl (fun ls hl => ?_)
  refine lv_iload_n hx hb dX6_read_11 rfl (lv_at hl 3 rfl) ?_
  refine lv_if_ne (tgt := 22) hx hb dX6_read_12 (by decide) (fun c_1 => ?_) (fun c_1 => ?_)
  · refine lv_iload_n hx hb dX6_read_22 rfl (lv_at hl 4 rfl) ?_
    refine lv_if_lt (tgt := 37) hx hb dX6_read_23 (by decide) (fun c_2 => ?_) (fun c_2 => ?_)
    · refine lv_aload_n hx hb dX6_read_37 rfl (lv_at hl 1 rfl) ?_
      refine lv_iconst (v := 2) hx hb dX6_read_38 (by decide) ?_
      refine xm_of (wc := [(mo, .inr (6, [.int 0, .ref mr, .ref ml, .int wr, .int gm, .int gh, .int gw, .int bm, .int bd, .int bc, .int ca, .ref ms, .ref mv]))]) (wo := []) (va_runV (As := [.int 2]) (rest := []) ⟨hx, hb, hml, hown, xTs⟩ (c_fails h mo mr ml ms mv 0 wr gm gh gw bm bd bc ca 2 _) ⟨xB (n := 1) (k_582 h hb0) (k_5 h hb0) (k_579 h hb0) (by decide) rfl rfl rfl (by decide) (by decide), (k_581 h hb0), (ks_3 h hb0)⟩ (xpMV (wr := []) (wc := [(mo, .inr (6, [.int 0, .ref mr, .ref ml, .int wr, .int gm, .int gh, .int gw, .int bm, .int bd, .int bc, .int ca, .ref ms, .ref mv]))]) hb0 hS hz (va_P.sub hP [] rfl) (va_P.sub hP [0] rfl) (va_D.sub (xDD (xDl hD0) hD hz hnR) [1] rfl rfl) (va_recv hK hP (ci := 6) (q0 := 0) rfl rfl)) rfl rfl hl.1 rfl (lv_room (Nat.le_of_ble_eq_true rfl)) dX6_read_39 ⟨(Nat.le_of_ble_eq_true rfl), (Nat.le_of_ble_eq_true rfl)⟩) hP hD hS hA [0] [] rfl rfl rfl (by decide) (fun r w1 H locs hΦ hP hD hS => ?_)
      obtain ⟨rfl, rfl⟩ := hΦ
      have hP : va_P (dC, dI) vwCl [(mo, .inr (6, [.int 2, .ref mr, .ref ml, .int wr, .int gm, .int gh, .int gw, .int bm, .int bd, .int bc, .int ca, .ref ms, .ref mv]))] H := hP
      have hD : va_D A [(mo, .inr (6, [.int 2, .ref mr, .ref ml, .int wr, .int gm, .int gh, .int gw, .int bm, .int bd, .int bc, .int ca, .ref ms, .ref mv]))] := hD
      refine lv_i2l hx hb dX6_read_42 rfl ?_
      exact W.lret hx hb hr (fun t ht _ => ⟨(some (.long ((0 : Int32).toInt64))), _, rfl, ⟨rfl, rfl⟩, by rw [ht]; exact hP, hD, hS.F ht⟩) (fun q z => hS.2.2 q z) dX6_read_43
    · refine lv_iload_n hx hb dX6_read_26 rfl (lv_at hl 4 rfl) ?_
      refine lv_aload_n hx hb dX6_read_27 rfl (lv_at hl 1 rfl) ?_
      refine va_get (D := (dC, dI)) (ci := 6) (v := .ref ml) (C := RX6) (T := TX6) (N := 13) hx hb (ly_6 h hb0) (fun _ z => z) hown hK hP 0 rfl rfl 2 (by decide) (k_533 h hb0) (fun _ z => z) rfl dX6_read_28 ?_
      refine lv_iload hx hb dX6_read_31 (lv_at hl 0 rfl) ?_
      refine va_iald hx hb hK (hRo _ _ hS) 0 0 rfl rfl (vp_in_nI hK8 (by decide)) dX6_read_33 ?_
      rw [nI_clamp (Nat.lt_trans hK8 (by decide))]
      refine lv_icmp_lt (tgt := 44) hx hb dX6_read_34 (by decide) (fun c_3 => ?_) (fun c_3 => ?_)
      · exact absurd hc (fun z => z.elim c_2 (fun y => y c_3))
      · refine lv_aload_n hx hb dX6_read_37 rfl (lv_at hl 1 rfl) ?_
        refine lv_iconst (v := 2) hx hb dX6_read_38 (by decide) ?_
        refine xm_of (wc := [(mo, .inr (6, [.int 0, .ref mr, .ref ml, .int wr, .int gm, .int gh, .int gw, .int bm, .int bd, .int bc, .int ca, .ref ms, .ref mv]))]) (wo := []) (va_runV (As := [.int 2]) (rest := []) ⟨hx, hb, hml, hown, xTs⟩ (c_fails h mo mr ml ms mv 0 wr gm gh gw bm bd bc ca 2 _) ⟨xB (n := 1) (k_582 h hb0) (k_5 h hb0) (k_579 h hb0) (by decide) rfl rfl rfl (by decide) (by decide), (k_581 h hb0), (ks_3 h hb0)⟩ (xpMV (wr := []) (wc := [(mo, .inr (6, [.int 0, .ref mr, .ref ml, .int wr, .int gm, .int gh, .int gw, .int bm, .int bd, .int bc, .int ca, .ref ms, .ref mv]))]) hb0 hS hz (va_P.sub hP [] rfl) (va_P.sub hP [0] rfl) (va_D.sub (xDD (xDl hD0) hD hz hnR) [1] rfl rfl) (va_recv hK hP (ci := 6) (q0 := 0) rfl rfl)) rfl rfl hl.1 rfl (lv_room (Nat.le_of_ble_eq_true rfl)) dX6_read_39 ⟨(Nat.le_of_ble_eq_true rfl), (Nat.le_of_ble_eq_true rfl)⟩) hP hD hS hA [0] [] rfl rfl rfl (by decide) (fun r w1 H locs hΦ hP hD hS => ?_)
        obtain ⟨rfl, rfl⟩ := hΦ
        have hP : va_P (dC, dI) vwCl [(mo, .inr (6, [.int 2, .ref mr, .ref ml, .int wr, .int gm, .int gh, .int gw, .int bm, .int bd, .int bc, .int ca, .ref ms, .ref mv]))] H := hP
        have hD : va_D A [(mo, .inr (6, [.int 2, .ref mr, .ref ml, .int wr, .int gm, .int gh, .int gw, .int bm, .int bd, .int bc, .int ca, .ref ms, .ref mv]))] := hD
        refine lv_i2l hx hb dX6_read_42 rfl ?_
        exact W.lret hx hb hr (fun t ht _ => ⟨(some (.long ((0 : Int32).toInt64))), _, rfl, ⟨rfl, rfl⟩, by rw [ht]; exact hP, hD, hS.F ht⟩) (fun q z => hS.2.2 q z) dX6_read_43
  · exact absurd c_1 ht
set_option maxHeartbeats 4000000 in
set_option maxRecDepth 100000 in
theorem m_length_c {l : Launch} {s0 : State} {a0 : Array Value} {dC : Nat → ClassId} {dI : Nat → Nat → Nat} {cA : Nat → ClassId} (h : xC l s0 a0 dC dI cA) (mo mr ml ms mv : Nat) (th wr gm gh gw bm bd bc ca : Int32) (n : Nat → Int32) (K : Nat) (p1 p2 : Int32) (sz : Nat) (hKe : p1 &&& 7 = nI K) (hK8 : K < 8) (ht : ¬ p2 = 0) : Met l yX6_length [Cond.code yX6_length cX6_length 3 (some .int)] ({ frames := 1, cells := 0, slots := 0, locals := 40 } : Room) (xPM s0 (dC, dI) [.ref mo, .int p1, .int p2] [(ml, .inl (cA 0, 8, .inl n))] [(mo, .inr (6, [.int th, .ref mr, .ref ml, .int wr, .int gm, .int gh, .int gw, .int bm, .int bd, .int bc, .int ca, .ref ms, .ref mv]))] sz) (xQM (dC, dI) (va_A [(mo, .inr (6, [.int th, .ref mr, .ref ml, .int wr, .int gm, .int gh, .int gw, .int bm, .int bd, .int bc, .int ca, .ref ms, .ref mv]))] sz) (fun r w1 => r = some (.int (n K)) ∧ w1 = [(mo, .inr (6, [.int 0, .ref mr, .ref ml, .int wr, .int gm, .int gh, .int gw, .int bm, .int bd, .int bc, .int ca, .ref ms, .ref mv]))])) 0 0 (va_A [(mo, .inr (6, [.int th, .ref mr, .ref ml, .int wr, .int gm, .int gh, .int gw, .int bm, .int bd, .int bc, .int ca, .ref ms, .ref mv]))] sz) := by
  refine Met.ofW (cc := cX6_length) (maxL := 3) (ret := (some .int)) (by decide) rfl ?_
  intro p e s m args below meth c s₁ B hml hv
  obtain ⟨rfl, rfl, hb0, hPr, hP, hD0⟩ := hv
  have hx := B.exec
  have hb := B.bytes
  have hr := B.returns
  have hown : s.vm.findClass RX6 = some m.cls := findClass_of_methodNamed B.named
  have hlocks := B.notSynchronized
  have hK := h.K hb0
  have hS : va_S (va_A [(mo, .inr (6, [.int th, .ref mr, .ref ml, .int wr, .int gm, .int gh, .int gw, .int bm, .int bd, .int bc, .int ca, .ref ms, .ref mv]))] s.heap.size) s.heap s.heap [] := va_S.rf
  obtain ⟨A, hAe, hD, hA, hz, hRo, hwk, hnR⟩ := xM_start hb0 hPr hP hD0
  rw [hAe] at hS ⊢
  have hl := lv_entry ([.ref mo, .int p1, .int p2]) (n := 3) (Nat.le_of_ble_eq_true rfl)
  rw [lg_entry_eq]
  generalize (lg_sl ([.ref mo, .int p1, .int p2]) ++ List.replicate (3 - (lg_sl ([.ref mo, .int p1, .int p2])).length) Slot.unset).toArray = ls at hl ⊢
  have hl : lv_has ls 3 [(0, .ref mo), (1, .int p1), (2, .int p2)] := hl
  refine lv_aload_n hx hb dX6_length_0 rfl (lv_at hl 0 rfl) ?_
  refine lv_iconst (v := 0) hx hb dX6_length_1 (by decide) ?_
  refine va_put (D := (dC, dI)) (ci := 6) (v := .int 0) (ty := .int) (C := RX6) (T := TX6) (N := 13) hx hb (ly_6 h hb0) (fun _ z => z) tyX6 tyX6_ok nmX6 hown hK hP hD hS 0 rfl rfl 0 (by decide) (k_531 h hb0) (fun _ z => z) rfl (by decide +kernel) rfl rfl (Nat.le_of_ble_eq_true rfl) dX6_length_2 (fun H locs hP hD hS => ?_)
  have hP : va_P (dC, dI) vwCl [(mo, .inr (6, [.int 0, .ref mr, .ref ml, .int wr, .int gm, .int gh, .int gw, .int bm, .int bd, .int bc, .int ca, .ref ms, .ref mv]))] H := hP
  have hD : va_D A [(mo, .inr (6, [.int 0, .ref mr, .ref ml, .int wr, .int gm, .int gh, .int gw, .int bm, .int bd, .int bc, .int ca, .ref ms, .ref mv]))] := hD
  refine lv_iload_n hx hb dX6_length_5 rfl (lv_at hl 2 rfl) ?_
  refine lv_if_eq (tgt := 21) hx hb dX6_length_6 (by decide) (fun c_1 => ?_) (fun c_1 => ?_)
  · exact absurd c_1 ht
  · refine lv_aload_n hx hb dX6_length_9 rfl (lv_at hl 0 rfl) ?_
    refine va_get (D := (dC, dI)) (ci := 6) (v := .ref ml) (C := RX6) (T := TX6) (N := 13) hx hb (ly_6 h hb0) (fun _ z => z) hown hK hP 0 rfl rfl 2 (by decide) (k_533 h hb0) (fun _ z => z) rfl dX6_length_10 ?_
    refine lv_iload_n hx hb dX6_length_13 rfl (lv_at hl 1 rfl) ?_
    refine lv_bipush (v := 7) hx hb dX6_length_14 (by decide) ?_
    refine lv_iand hx hb dX6_length_16 ?_
    rw [hKe]
    refine va_iald hx hb hK (hRo _ _ hS) 0 0 rfl rfl (vp_in_nI hK8 (by decide)) dX6_length_17 ?_
    rw [nI_clamp (Nat.lt_trans hK8 (by decide))]
    refine lv_goto (tgt := 26) hx hb dX6_length_18 (by decide) ?_
    exact W.iret hx hb hr (fun t ht _ => ⟨(some (.int (n K))), _, rfl, ⟨rfl, rfl⟩, by rw [ht]; exact hP, hD, hS.F ht⟩) (fun q z => hS.2.2 q z) dX6_length_26
set_option maxHeartbeats 4000000 in
set_option maxRecDepth 100000 in
theorem m_length_N {l : Launch} {s0 : State} {a0 : Array Value} {dC : Nat → ClassId} {dI : Nat → Nat → Nat} {cA : Nat → ClassId} (h : xC l s0 a0 dC dI cA) (mo mr ml ms mv : Nat) (th wr gm gh gw bm bd bc ca : Int32) (n : Nat → Int32) (p1 p2 : Int32) (sz : Nat) (ht : p2 = 0) : Met l yX6_length [Cond.code yX6_length cX6_length 3 (some .int)] ({ frames := 1, cells := 0, slots := 0, locals := 40 } : Room) (xPM s0 (dC, dI) [.ref mo, .int p1, .int p2] [(ml, .inl (cA 0, 8, .inl n))] [(mo, .inr (6, [.int th, .ref mr, .ref ml, .int wr, .int gm, .int gh, .int gw, .int bm, .int bd, .int bc, .int ca, .ref ms, .ref mv]))] sz) (xQM (dC, dI) (va_A [(mo, .inr (6, [.int th, .ref mr, .ref ml, .int wr, .int gm, .int gh, .int gw, .int bm, .int bd, .int bc, .int ca, .ref ms, .ref mv]))] sz) (fun r w1 => r = some (.int 0) ∧ w1 = [(mo, .inr (6, [.int 1, .ref mr, .ref ml, .int wr, .int gm, .int gh, .int gw, .int bm, .int bd, .int bc, .int ca, .ref ms, .ref mv]))])) 0 0 (va_A [(mo, .inr (6, [.int th, .ref mr, .ref ml, .int wr, .int gm, .int gh, .int gw, .int bm, .int bd, .int bc, .int ca, .ref ms, .ref mv]))] sz) := by
  refine Met.ofW (cc := cX6_length) (maxL := 3) (ret := (some .int)) (by decide) rfl ?_
  intro p e s m args below meth c s₁ B hml hv
  obtain ⟨rfl, rfl, hb0, hPr, hP, hD0⟩ := hv
  have hx := B.exec
  have hb := B.bytes
  have hr := B.returns
  have hown : s.vm.findClass RX6 = some m.cls := findClass_of_methodNamed B.named
  have hlocks := B.notSynchronized
  have hK := h.K hb0
  have hS : va_S (va_A [(mo, .inr (6, [.int th, .ref mr, .ref ml, .int wr, .int gm, .int gh, .int gw, .int bm, .int bd, .int bc, .int ca, .ref ms, .ref mv]))] s.heap.size) s.heap s.heap [] := va_S.rf
  obtain ⟨A, hAe, hD, hA, hz, hRo, hwk, hnR⟩ := xM_start hb0 hPr hP hD0
  rw [hAe] at hS ⊢
  have hl := lv_entry ([.ref mo, .int p1, .int p2]) (n := 3) (Nat.le_of_ble_eq_true rfl)
  rw [lg_entry_eq]
  generalize (lg_sl ([.ref mo, .int p1, .int p2]) ++ List.replicate (3 - (lg_sl ([.ref mo, .int p1, .int p2])).length) Slot.unset).toArray = ls at hl ⊢
  have hl : lv_has ls 3 [(0, .ref mo), (1, .int p1), (2, .int p2)] := hl
  refine lv_aload_n hx hb dX6_length_0 rfl (lv_at hl 0 rfl) ?_
  refine lv_iconst (v := 0) hx hb dX6_length_1 (by decide) ?_
  refine va_put (D := (dC, dI)) (ci := 6) (v := .int 0) (ty := .int) (C := RX6) (T := TX6) (N := 13) hx hb (ly_6 h hb0) (fun _ z => z) tyX6 tyX6_ok nmX6 hown hK hP hD hS 0 rfl rfl 0 (by decide) (k_531 h hb0) (fun _ z => z) rfl (by decide +kernel) rfl rfl (Nat.le_of_ble_eq_true rfl) dX6_length_2 (fun H locs hP hD hS => ?_)
  have hP : va_P (dC, dI) vwCl [(mo, .inr (6, [.int 0, .ref mr, .ref ml, .int wr, .int gm, .int gh, .int gw, .int bm, .int bd, .int bc, .int ca, .ref ms, .ref mv]))] H := hP
  have hD : va_D A [(mo, .inr (6, [.int 0, .ref mr, .ref ml, .int wr, .int gm, .int gh, .int gw, .int bm, .int bd, .int bc, .int ca, .ref ms, .ref mv]))] := hD
  refine lv_iload_n hx hb dX6_length_5 rfl (lv_at hl 2 rfl) ?_
  refine lv_if_eq (tgt := 21) hx hb dX6_length_6 (by decide) (fun c_1 => ?_) (fun c_1 => ?_)
  · refine lv_aload_n hx hb dX6_length_21 rfl (lv_at hl 0 rfl) ?_
    refine lv_iconst (v := 1) hx hb dX6_length_22 (by decide) ?_
    refine xm_of (wc := [(mo, .inr (6, [.int 0, .ref mr, .ref ml, .int wr, .int gm, .int gh, .int gw, .int bm, .int bd, .int bc, .int ca, .ref ms, .ref mv]))]) (wo := []) (va_runV (As := [.int 1]) (rest := []) ⟨hx, hb, hml, hown, xTs⟩ (c_fails h mo mr ml ms mv 0 wr gm gh gw bm bd bc ca 1 _) ⟨xB (n := 1) (k_582 h hb0) (k_5 h hb0) (k_579 h hb0) (by decide) rfl rfl rfl (by decide) (by decide), (k_581 h hb0), (ks_3 h hb0)⟩ (xpMV (wr := []) (wc := [(mo, .inr (6, [.int 0, .ref mr, .ref ml, .int wr, .int gm, .int gh, .int gw, .int bm, .int bd, .int bc, .int ca, .ref ms, .ref mv]))]) hb0 hS hz (va_P.sub hP [] rfl) (va_P.sub hP [0] rfl) (va_D.sub (xDD (xDl hD0) hD hz hnR) [1] rfl rfl) (va_recv hK hP (ci := 6) (q0 := 0) rfl rfl)) rfl rfl hl.1 rfl (lv_room (Nat.le_of_ble_eq_true rfl)) dX6_length_23 ⟨(Nat.le_of_ble_eq_true rfl), (Nat.le_of_ble_eq_true rfl)⟩) hP hD hS hA [0] [] rfl rfl rfl (by decide) (fun r w1 H locs hΦ hP hD hS => ?_)
    obtain ⟨rfl, rfl⟩ := hΦ
    have hP : va_P (dC, dI) vwCl [(mo, .inr (6, [.int 1, .ref mr, .ref ml, .int wr, .int gm, .int gh, .int gw, .int bm, .int bd, .int bc, .int ca, .ref ms, .ref mv]))] H := hP
    have hD : va_D A [(mo, .inr (6, [.int 1, .ref mr, .ref ml, .int wr, .int gm, .int gh, .int gw, .int bm, .int bd, .int bc, .int ca, .ref ms, .ref mv]))] := hD
    exact W.iret hx hb hr (fun t ht _ => ⟨(some (.int 0)), _, rfl, ⟨rfl, rfl⟩, by rw [ht]; exact hP, hD, hS.F ht⟩) (fun q z => hS.2.2 q z) dX6_length_26
  · exact absurd ht c_1
set_option maxHeartbeats 4000000 in
set_option maxRecDepth 100000 in
theorem m_make_c {l : Launch} {s0 : State} {a0 : Array Value} {dC : Nat → ClassId} {dI : Nat → Nat → Nat} {cA : Nat → ClassId} (h : xC l s0 a0 dC dI cA) (mo mr ml ms mv : Nat) (th wr gm gh gw bm bd bc ca : Int32) (n : Nat → Int32) (f : Nat → Int64) (K N : Nat) (p1 p2 : Int32) (sz : Nat) (hKe : p1 &&& 7 = nI K) (hK8 : K < 8) (hN : p2 - p2 / 40 * 40 = nI N) (hN4 : N < 40) : Met l yX6_make [Cond.code yX6_make cX6_make 6 (some .int)] ({ frames := 1, cells := 0, slots := 0, locals := 40 } : Room) (xPM s0 (dC, dI) [.ref mo, .int p1, .int p2] [] [(mo, .inr (6, [.int th, .ref mr, .ref ml, .int wr, .int gm, .int gh, .int gw, .int bm, .int bd, .int bc, .int ca, .ref ms, .ref mv])), (ml, .inl (cA 0, 8, .inl n)), (mr, .inl (cA 1, 320, .inr (.inl f)))] sz) (xQM (dC, dI) (va_A [(mo, .inr (6, [.int th, .ref mr, .ref ml, .int wr, .int gm, .int gh, .int gw, .int bm, .int bd, .int bc, .int ca, .ref ms, .ref mv])), (ml, .inl (cA 0, 8, .inl n)), (mr, .inl (cA 1, 320, .inr (.inl f)))] sz) (fun r w1 => r = some (.int (nI N)) ∧ w1 = [(mo, .inr (6, [.int 0, .ref mr, .ref ml, .int wr, .int gm, .int gh, .int gw, .int bm, .int bd, .int bc, .int ca, .ref ms, .ref mv])), (ml, .inl (cA 0, 8, .inl (upd n K (nI N)))), (mr, .inl (cA 1, 320, .inr (.inl (fz f K 40))))])) 0 0 (va_A [(mo, .inr (6, [.int th, .ref mr, .ref ml, .int wr, .int gm, .int gh, .int gw, .int bm, .int bd, .int bc, .int ca, .ref ms, .ref mv])), (ml, .inl (cA 0, 8, .inl n)), (mr, .inl (cA 1, 320, .inr (.inl f)))] sz) := by
  refine Met.ofW (cc := cX6_make) (maxL := 6) (ret := (some .int)) (by decide) rfl ?_
  intro p e s m args below meth c s₁ B hml hv
  obtain ⟨rfl, rfl, hb0, hPr, hP, hD0⟩ := hv
  have hx := B.exec
  have hb := B.bytes
  have hr := B.returns
  have hown : s.vm.findClass RX6 = some m.cls := findClass_of_methodNamed B.named
  have hlocks := B.notSynchronized
  have hK := h.K hb0
  have hS : va_S (va_A [(mo, .inr (6, [.int th, .ref mr, .ref ml, .int wr, .int gm, .int gh, .int gw, .int bm, .int bd, .int bc, .int ca, .ref ms, .ref mv])), (ml, .inl (cA 0, 8, .inl n)), (mr, .inl (cA 1, 320, .inr (.inl f)))] s.heap.size) s.heap s.heap [] := va_S.rf
  obtain ⟨A, hAe, hD, hA, hz, hRo, hwk, hnR⟩ := xM_start hb0 hPr hP hD0
  rw [hAe] at hS ⊢
  have hl := lv_entry ([.ref mo, .int p1, .int p2]) (n := 6) (Nat.le_of_ble_eq_true rfl)
  rw [lg_entry_eq]
  generalize (lg_sl ([.ref mo, .int p1, .int p2]) ++ List.replicate (6 - (lg_sl ([.ref mo, .int p1, .int p2])).length) Slot.unset).toArray = ls at hl ⊢
  have hl : lv_has ls 6 [(0, .ref mo), (1, .int p1), (2, .int p2)] := hl
  refine lv_aload_n hx hb dX6_make_0 rfl (lv_at hl 0 rfl) ?_
  refine lv_iconst (v := 0) hx hb dX6_make_1 (by decide) ?_
  refine va_put (D := (dC, dI)) (ci := 6) (v := .int 0) (ty := .int) (C := RX6) (T := TX6) (N := 13) hx hb (ly_6 h hb0) (fun _ z => z) tyX6 tyX6_ok nmX6 hown hK hP hD hS 0 rfl rfl 0 (by decide) (k_531 h hb0) (fun _ z => z) rfl (by decide +kernel) rfl rfl (Nat.le_of_ble_eq_true rfl) dX6_make_2 (fun H locs hP hD hS => ?_)
  have hP : va_P (dC, dI) vwCl [(mo, .inr (6, [.int 0, .ref mr, .ref ml, .int wr, .int gm, .int gh, .int gw, .int bm, .int bd, .int bc, .int ca, .ref ms, .ref mv])), (ml, .inl (cA 0, 8, .inl n)), (mr, .inl (cA 1, 320, .inr (.inl f)))] H := hP
  have hD : va_D A [(mo, .inr (6, [.int 0, .ref mr, .ref ml, .int wr, .int gm, .int gh, .int gw, .int bm, .int bd, .int bc, .int ca, .ref ms, .ref mv])), (ml, .inl (cA 0, 8, .inl n)), (mr, .inl (cA 1, 320, .inr (.inl f)))] := hD
  refine lv_iload_n hx hb dX6_make_5 rfl (lv_at hl 2 rfl) ?_
  refine lv_bipush (v := 40) hx hb dX6_make_6 (by decide) ?_
  refine lv_irem hx hb dX6_make_8 (by decide) ?_
  rw [hN]
  refine lv_istore_n (lv' := [(3, .int (nI N)), (0, .ref mo), (1, .int p1), (2, .int p2)]) hx hb dX6_make_9 rfl hl (by decide) rfl (fun ls hl => ?_)
  refine lv_iload_n hx hb dX6_make_10 rfl (lv_at hl 2 rfl) ?_
  refine lv_bipush (v := 7) hx hb dX6_make_11 (by decide) ?_
  refine lv_iand hx hb dX6_make_13 ?_
  rw [hKe]
  refine lv_istore (lv' := [(4, .int (nI K)), (3, .int (nI N)), (0, .ref mo), (1, .int p1), (2, .int p2)]) hx hb dX6_make_14 hl (by decide) rfl (fun ls hl => ?_)
  refine lv_iload_n hx hb dX6_make_16 rfl (lv_at hl 1 rfl) ?_
  refine lv_if_ge (tgt := 26) hx hb dX6_make_17 (by decide) (fun c_1 => ?_) (fun c_1 => ?_)
  · refine lv_aload_n hx hb dX6_make_26 rfl (lv_at hl 2 rfl) ?_
    refine va_get (D := (dC, dI)) (ci := 6) (v := .ref ml) (C := RX6) (T := TX6) (N := 13) hx hb (ly_6 h hb0) (fun _ z => z) hown hK hP 0 rfl rfl 2 (by decide) (k_533 h hb0) (fun _ z => z) rfl dX6_make_27 ?_
    refine lv_iload hx hb dX6_make_30 (lv_at hl 0 rfl) ?_
    refine lv_iload_n hx hb dX6_make_32 rfl (lv_at hl 1 rfl) ?_
    refine va_iast hx hb hK hP hD hS 1 0 rfl rfl (vp_in_nI hK8 (by decide)) dX6_make_33 (fun H locs hP hD hS => ?_)
    have hP : va_P (dC, dI) vwCl [(mo, .inr (6, [.int 0, .ref mr, .ref ml, .int wr, .int gm, .int gh, .int gw, .int bm, .int bd, .int bc, .int ca, .ref ms, .ref mv])), (ml, .inl (cA 0, 8, .inl (upd n (nI K).toNatClampNeg (nI N)))), (mr, .inl (cA 1, 320, .inr (.inl f)))] H := hP
    have hD : va_D A [(mo, .inr (6, [.int 0, .ref mr, .ref ml, .int wr, .int gm, .int gh, .int gw, .int bm, .int bd, .int bc, .int ca, .ref ms, .ref mv])), (ml, .inl (cA 0, 8, .inl (upd n (nI K).toNatClampNeg (nI N)))), (mr, .inl (cA 1, 320, .inr (.inl f)))] := hD
    rw [nI_clamp (Nat.lt_trans hK8 (by decide))] at hP hD
    refine lv_iconst (v := 0) hx hb dX6_make_34 (by decide) ?_
    refine lv_istore (lv' := [(5, .int 0), (4, .int (nI K)), (3, .int (nI N)), (0, .ref mo), (1, .int p1), (2, .int p2)]) hx hb dX6_make_35 hl (by decide) rfl (fun ls hl => ?_)
    refine xloop (σ := Array Slot × Heap × List Loc) (fun i z => lv_has z.1 6 [(5, .int (nI i)), (4, .int (nI K)), (3, .int (nI N)), (0, .ref mo), (1, .int p1), (2, .int p2)] ∧ va_P (dC, dI) vwCl [(mo, .inr (6, [.int 0, .ref mr, .ref ml, .int wr, .int gm, .int gh, .int gw, .int bm, .int bd, .int bc, .int ca, .ref ms, .ref mv])), (ml, .inl (cA 0, 8, .inl (upd n K (nI N)))), (mr, .inl (cA 1, 320, .inr (.inl (fz f K i))))] z.2.1 ∧ va_D A [(mo, .inr (6, [.int 0, .ref mr, .ref ml, .int wr, .int gm, .int gh, .int gw, .int bm, .int bd, .int bc, .int ca, .ref ms, .ref mv])), (ml, .inl (cA 0, 8, .inl (upd n K (nI N)))), (mr, .inl (cA 1, 320, .inr (.inl (fz f K i))))] ∧ va_S A s.heap z.2.1 z.2.2) (fun z => W p l e _ s m _ below meth c z.2.1 z.2.2 _ _ _ (F0 m 37 z.1 [])) 40 ?_ ?_ (ls, _, _) ⟨hl, by rw [fz_0]; exact hP, by rw [fz_0]; exact hD, hS⟩
    · rintro i ⟨ls, H, locs⟩ hi ⟨hl, hP, hD, hS⟩ ih
      have hl : lv_has ls 6 [(5, .int (nI i)), (4, .int (nI K)), (3, .int (nI N)), (0, .ref mo), (1, .int p1), (2, .int p2)] := hl
      have hP : va_P (dC, dI) vwCl [(mo, .inr (6, [.int 0, .ref mr, .ref ml, .int wr, .int gm, .int gh, .int gw, .int bm, .int bd, .int bc, .int ca, .ref ms, .ref mv])), (ml, .inl (cA 0, 8, .inl (upd n K (nI N)))), (mr, .inl (cA 1, 320, .inr (.inl (fz f K i))))] H := hP
      have hD : va_D A [(mo, .inr (6, [.int 0, .ref mr, .ref ml, .int wr, .int gm, .int gh, .int gw, .int bm, .int bd, .int bc, .int ca, .ref ms, .ref mv])), (ml, .inl (cA 0, 8, .inl (upd n K (nI N)))), (mr, .inl (cA 1, 320, .inr (.inl (fz f K i))))] := hD
      have hS : va_S A s.heap H locs := hS
      show W p l e _ s m _ below meth c H locs _ _ _ (F0 m 37 ls [])
      refine lv_iload hx hb dX6_make_37 (lv_at hl 0 rfl) ?_
      refine lv_bipush (v := 40) hx hb dX6_make_39 (by decide) ?_
      refine lv_icmp_ge (tgt := 64) hx hb dX6_make_41 (by decide) (fun c_2 => ?_) (fun c_2 => ?_)
      · exact absurd c_2 (nI_ge hi (by decide))
      · refine lv_aload_n hx hb dX6_make_44 rfl (lv_at hl 3 rfl) ?_
        refine va_get (D := (dC, dI)) (ci := 6) (v := .ref mr) (C := RX6) (T := TX6) (N := 13) hx hb (ly_6 h hb0) (fun _ z => z) hown hK hP 0 rfl rfl 1 (by decide) (k_532 h hb0) (fun _ z => z) rfl dX6_make_45 ?_
        refine lv_bipush (v := 40) hx hb dX6_make_48 (by decide) ?_
        refine lv_iload hx hb dX6_make_50 (lv_at hl 1 rfl) ?_
        refine lv_imul hx hb dX6_make_52 ?_
        refine lv_iload hx hb dX6_make_53 (lv_at hl 0 rfl) ?_
        refine lv_iadd hx hb dX6_make_55 ?_
        rw [ix40]
        refine lv_lconst (v := 0) hx hb dX6_make_56 (by decide) ?_
        refine va_last hx hb hK hP hD hS 2 1 rfl rfl (vp_in_nI (by omega) (by decide)) dX6_make_57 (fun H locs hP hD hS => ?_)
        have hP : va_P (dC, dI) vwCl [(mo, .inr (6, [.int 0, .ref mr, .ref ml, .int wr, .int gm, .int gh, .int gw, .int bm, .int bd, .int bc, .int ca, .ref ms, .ref mv])), (ml, .inl (cA 0, 8, .inl (upd n K (nI N)))), (mr, .inl (cA 1, 320, .inr (.inl (vp_updL (fz f K i) (nI (40 * K + i)).toNatClampNeg 0))))] H := hP
        have hD : va_D A [(mo, .inr (6, [.int 0, .ref mr, .ref ml, .int wr, .int gm, .int gh, .int gw, .int bm, .int bd, .int bc, .int ca, .ref ms, .ref mv])), (ml, .inl (cA 0, 8, .inl (upd n K (nI N)))), (mr, .inl (cA 1, 320, .inr (.inl (vp_updL (fz f K i) (nI (40 * K + i)).toNatClampNeg 0))))] := hD
        refine lv_iinc (lv' := [(5, .int (nI (i + 1))), (4, .int (nI K)), (3, .int (nI N)), (0, .ref mo), (1, .int p1), (2, .int p2)]) hx hb dX6_make_58 hl (k := 0) rfl (nI_1 _) (by decide) rfl (fun ls hl => ?_)
        refine lv_goto (tgt := 37) hx hb dX6_make_61 (by decide) ?_
        rw [nI_clamp (by omega), fz_s] at hP hD
        exact ih (ls, _, _) ⟨hl, hP, hD, hS⟩
    · rintro ⟨ls, H, locs⟩ ⟨hl, hP, hD, hS⟩
      have hl : lv_has ls 6 [(5, .int (nI 40)), (4, .int (nI K)), (3, .int (nI N)), (0, .ref mo), (1, .int p1), (2, .int p2)] := hl
      have hP : va_P (dC, dI) vwCl [(mo, .inr (6, [.int 0, .ref mr, .ref ml, .int wr, .int gm, .int gh, .int gw, .int bm, .int bd, .int bc, .int ca, .ref ms, .ref mv])), (ml, .inl (cA 0, 8, .inl (upd n K (nI N)))), (mr, .inl (cA 1, 320, .inr (.inl (fz f K 40))))] H := hP
      have hD : va_D A [(mo, .inr (6, [.int 0, .ref mr, .ref ml, .int wr, .int gm, .int gh, .int gw, .int bm, .int bd, .int bc, .int ca, .ref ms, .ref mv])), (ml, .inl (cA 0, 8, .inl (upd n K (nI N)))), (mr, .inl (cA 1, 320, .inr (.inl (fz f K 40))))] := hD
      have hS : va_S A s.heap H locs := hS
      show W p l e _ s m _ below meth c H locs _ _ _ (F0 m 37 ls [])
      refine lv_iload hx hb dX6_make_37 (lv_at hl 0 rfl) ?_
      refine lv_bipush (v := 40) hx hb dX6_make_39 (by decide) ?_
      refine lv_icmp_ge (tgt := 64) hx hb dX6_make_41 (by decide) (fun c_3 => ?_) (fun c_3 => ?_)
      · refine lv_iload_n hx hb dX6_make_64 rfl (lv_at hl 2 rfl) ?_
        exact W.iret hx hb hr (fun t ht _ => ⟨(some (.int (nI N))), _, rfl, ⟨rfl, rfl⟩, by rw [ht]; exact hP, hD, hS.F ht⟩) (fun q z => hS.2.2 q z) dX6_make_65
      · exact absurd (by decide) c_3
  · exact absurd (nI_pos' (by omega)) c_1
set_option maxHeartbeats 4000000 in
set_option maxRecDepth 100000 in
theorem m_make_S {l : Launch} {s0 : State} {a0 : Array Value} {dC : Nat → ClassId} {dI : Nat → Nat → Nat} {cA : Nat → ClassId} (h : xC l s0 a0 dC dI cA) (mo mr ml ms mv : Nat) (th wr gm gh gw bm bd bc ca : Int32) (K : Nat) (p1 p2 : Int32) (sz : Nat) (hKe : p1 &&& 7 = nI K) (hK8 : K < 8) (hc : p2 - p2 / 40 * 40 < 0) : Met l yX6_make [Cond.code yX6_make cX6_make 6 (some .int)] ({ frames := 1, cells := 0, slots := 0, locals := 40 } : Room) (xPM s0 (dC, dI) [.ref mo, .int p1, .int p2] [] [(mo, .inr (6, [.int th, .ref mr, .ref ml, .int wr, .int gm, .int gh, .int gw, .int bm, .int bd, .int bc, .int ca, .ref ms, .ref mv]))] sz) (xQM (dC, dI) (va_A [(mo, .inr (6, [.int th, .ref mr, .ref ml, .int wr, .int gm, .int gh, .int gw, .int bm, .int bd, .int bc, .int ca, .ref ms, .ref mv]))] sz) (fun r w1 => r = some (.int 0) ∧ w1 = [(mo, .inr (6, [.int 1, .ref mr, .ref ml, .int wr, .int gm, .int gh, .int gw, .int bm, .int bd, .int bc, .int ca, .ref ms, .ref mv]))])) 0 0 (va_A [(mo, .inr (6, [.int th, .ref mr, .ref ml, .int wr, .int gm, .int gh, .int gw, .int bm, .int bd, .int bc, .int ca, .ref ms, .ref mv]))] sz) := by
  refine Met.ofW (cc := cX6_make) (maxL := 6) (ret := (some .int)) (by decide) rfl ?_
  intro p e s m args below meth c s₁ B hml hv
  obtain ⟨rfl, rfl, hb0, hPr, hP, hD0⟩ := hv
  have hx := B.exec
  have hb := B.bytes
  have hr := B.returns
  have hown : s.vm.findClass RX6 = some m.cls := findClass_of_methodNamed B.named
  have hlocks := B.notSynchronized
  have hK := h.K hb0
  have hS : va_S (va_A [(mo, .inr (6, [.int th, .ref mr, .ref ml, .int wr, .int gm, .int gh, .int gw, .int bm, .int bd, .int bc, .int ca, .ref ms, .ref mv]))] s.heap.size) s.heap s.heap [] := va_S.rf
  obtain ⟨A, hAe, hD, hA, hz, hRo, hwk, hnR⟩ := xM_start hb0 hPr hP hD0
  rw [hAe] at hS ⊢
  have hl := lv_entry ([.ref mo, .int p1, .int p2]) (n := 6) (Nat.le_of_ble_eq_true rfl)
  rw [lg_entry_eq]
  generalize (lg_sl ([.ref mo, .int p1, .int p2]) ++ List.replicate (6 - (lg_sl ([.ref mo, .int p1, .int p2])).length) Slot.unset).toArray = ls at hl ⊢
  have hl : lv_has ls 6 [(0, .ref mo), (1, .int p1), (2, .int p2)] := hl
  refine lv_aload_n hx hb dX6_make_0 rfl (lv_at hl 0 rfl) ?_
  refine lv_iconst (v := 0) hx hb dX6_make_1 (by decide) ?_
  refine va_put (D := (dC, dI)) (ci := 6) (v := .int 0) (ty := .int) (C := RX6) (T := TX6) (N := 13) hx hb (ly_6 h hb0) (fun _ z => z) tyX6 tyX6_ok nmX6 hown hK hP hD hS 0 rfl rfl 0 (by decide) (k_531 h hb0) (fun _ z => z) rfl (by decide +kernel) rfl rfl (Nat.le_of_ble_eq_true rfl) dX6_make_2 (fun H locs hP hD hS => ?_)
  have hP : va_P (dC, dI) vwCl [(mo, .inr (6, [.int 0, .ref mr, .ref ml, .int wr, .int gm, .int gh, .int gw, .int bm, .int bd, .int bc, .int ca, .ref ms, .ref mv]))] H := hP
  have hD : va_D A [(mo, .inr (6, [.int 0, .ref mr, .ref ml, .int wr, .int gm, .int gh, .int gw, .int bm, .int bd, .int bc, .int ca, .ref ms, .ref mv]))] := hD
  refine lv_iload_n hx hb dX6_make_5 rfl (lv_at hl 2 rfl) ?_
  refine lv_bipush (v := 40) hx hb dX6_make_6 (by decide) ?_
  refine lv_irem hx hb dX6_make_8 (by decide) ?_
  refine lv_istore_n (lv' := [(3, .int (p2 - p2 / 40 * 40)), (0, .ref mo), (1, .int p1), (2, .int p2)]) hx hb dX6_make_9 rfl hl (by decide) rfl (fun ls hl => ?_)
  refine lv_iload_n hx hb dX6_make_10 rfl (lv_at hl 2 rfl) ?_
  refine lv_bipush (v := 7) hx hb dX6_make_11 (by decide) ?_
  refine lv_iand hx hb dX6_make_13 ?_
  rw [hKe]
  refine lv_istore (lv' := [(4, .int (nI K)), (3, .int (p2 - p2 / 40 * 40)), (0, .ref mo), (1, .int p1), (2, .int p2)]) hx hb dX6_make_14 hl (by decide) rfl (fun ls hl => ?_)
  refine lv_iload_n hx hb dX6_make_16 rfl (lv_at hl 1 rfl) ?_
  refine lv_if_ge (tgt := 26) hx hb dX6_make_17 (by decide) (fun c_1 => ?_) (fun c_1 => ?_)
  · exact absurd hc (Int32.not_lt.mpr c_1)
  · refine lv_aload_n hx hb dX6_make_20 rfl (lv_at hl 2 rfl) ?_
    refine lv_iconst (v := 1) hx hb dX6_make_21 (by decide) ?_
    refine xm_of (wc := [(mo, .inr (6, [.int 0, .ref mr, .ref ml, .int wr, .int gm, .int gh, .int gw, .int bm, .int bd, .int bc, .int ca, .ref ms, .ref mv]))]) (wo := []) (va_runV (As := [.int 1]) (rest := []) ⟨hx, hb, hml, hown, xTs⟩ (c_fails h mo mr ml ms mv 0 wr gm gh gw bm bd bc ca 1 _) ⟨xB (n := 1) (k_582 h hb0) (k_5 h hb0) (k_579 h hb0) (by decide) rfl rfl rfl (by decide) (by decide), (k_581 h hb0), (ks_3 h hb0)⟩ (xpMV (wr := []) (wc := [(mo, .inr (6, [.int 0, .ref mr, .ref ml, .int wr, .int gm, .int gh, .int gw, .int bm, .int bd, .int bc, .int ca, .ref ms, .ref mv]))]) hb0 hS hz (va_P.sub hP [] rfl) (va_P.sub hP [0] rfl) (va_D.sub (hwk _ hD) [0] rfl rfl) (va_recv hK hP (ci := 6) (q0 := 0) rfl rfl)) rfl rfl hl.1 rfl (lv_room (Nat.le_of_ble_eq_true rfl)) dX6_make_22 ⟨(Nat.le_of_ble_eq_true rfl), (Nat.le_of_ble_eq_true rfl)⟩) hP hD hS hA [0] [] rfl rfl rfl (by decide) (fun r w1 H locs hΦ hP hD hS => ?_)
    obtain ⟨rfl, rfl⟩ := hΦ
    have hP : va_P (dC, dI) vwCl [(mo, .inr (6, [.int 1, .ref mr, .ref ml, .int wr, .int gm, .int gh, .int gw, .int bm, .int bd, .int bc, .int ca, .ref ms, .ref mv]))] H := hP
    have hD : va_D A [(mo, .inr (6, [.int 1, .ref mr, .ref ml, .int wr, .int gm, .int gh, .int gw, .int bm, .int bd, .int bc, .int ca, .ref ms, .ref mv]))] := hD
    exact W.iret hx hb hr (fun t ht _ => ⟨(some (.int 0)), _, rfl, ⟨rfl, rfl⟩, by rw [ht]; exact hP, hD, hS.F ht⟩) (fun q z => hS.2.2 q z) dX6_make_25
set_option maxHeartbeats 4000000 in
set_option maxRecDepth 100000 in
theorem m_grid_c {l : Launch} {s0 : State} {a0 : Array Value} {dC : Nat → ClassId} {dI : Nat → Nat → Nat} {cA : Nat → ClassId} (h : xC l s0 a0 dC dI cA) (mo mr ml ms mv : Nat) (th wr gm gh gw bm bd bc ca : Int32) (p1 p2 : Int32) (sz : Nat) (hc : ¬ p1 - p1 / 9 * 9 < 0) (hd : ¬ p2 - p2 / 9 * 9 < 0) : Met l yX6_grid [Cond.code yX6_grid cX6_grid 5 (some .int)] ({ frames := 1, cells := 0, slots := 0, locals := 40 } : Room) (xPM s0 (dC, dI) [.ref mo, .int p1, .int p2] [] [(mo, .inr (6, [.int th, .ref mr, .ref ml, .int wr, .int gm, .int gh, .int gw, .int bm, .int bd, .int bc, .int ca, .ref ms, .ref mv]))] sz) (xQM (dC, dI) (va_A [(mo, .inr (6, [.int th, .ref mr, .ref ml, .int wr, .int gm, .int gh, .int gw, .int bm, .int bd, .int bc, .int ca, .ref ms, .ref mv]))] sz) (fun r w1 => r = some (.int ((p1 - p1 / 9 * 9) * (p2 - p2 / 9 * 9))) ∧ w1 = [(mo, .inr (6, [.int 0, .ref mr, .ref ml, .int wr, .int 1, .int (p1 - p1 / 9 * 9), .int (p2 - p2 / 9 * 9), .int bm, .int bd, .int bc, .int ca, .ref ms, .ref mv]))])) 0 0 (va_A [(mo, .inr (6, [.int th, .ref mr, .ref ml, .int wr, .int gm, .int gh, .int gw, .int bm, .int bd, .int bc, .int ca, .ref ms, .ref mv]))] sz) := by
  refine Met.ofW (cc := cX6_grid) (maxL := 5) (ret := (some .int)) (by decide) rfl ?_
  intro p e s m args below meth c s₁ B hml hv
  obtain ⟨rfl, rfl, hb0, hPr, hP, hD0⟩ := hv
  have hx := B.exec
  have hb := B.bytes
  have hr := B.returns
  have hown : s.vm.findClass RX6 = some m.cls := findClass_of_methodNamed B.named
  have hlocks := B.notSynchronized
  have hK := h.K hb0
  have hS : va_S (va_A [(mo, .inr (6, [.int th, .ref mr, .ref ml, .int wr, .int gm, .int gh, .int gw, .int bm, .int bd, .int bc, .int ca, .ref ms, .ref mv]))] s.heap.size) s.heap s.heap [] := va_S.rf
  obtain ⟨A, hAe, hD, hA, hz, hRo, hwk, hnR⟩ := xM_start hb0 hPr hP hD0
  rw [hAe] at hS ⊢
  have hl := lv_entry ([.ref mo, .int p1, .int p2]) (n := 5) (Nat.le_of_ble_eq_true rfl)
  rw [lg_entry_eq]
  generalize (lg_sl ([.ref mo, .int p1, .int p2]) ++ List.replicate (5 - (lg_sl ([.ref mo, .int p1, .int p2])).length) Slot.unset).toArray = ls at hl ⊢
  have hl : lv_has ls 5 [(0, .ref mo), (1, .int p1), (2, .int p2)] := hl
  refine lv_aload_n hx hb dX6_grid_0 rfl (lv_at hl 0 rfl) ?_
  refine lv_iconst (v := 0) hx hb dX6_grid_1 (by decide) ?_
  refine va_put (D := (dC, dI)) (ci := 6) (v := .int 0) (ty := .int) (C := RX6) (T := TX6) (N := 13) hx hb (ly_6 h hb0) (fun _ z => z) tyX6 tyX6_ok nmX6 hown hK hP hD hS 0 rfl rfl 0 (by decide) (k_531 h hb0) (fun _ z => z) rfl (by decide +kernel) rfl rfl (Nat.le_of_ble_eq_true rfl) dX6_grid_2 (fun H locs hP hD hS => ?_)
  have hP : va_P (dC, dI) vwCl [(mo, .inr (6, [.int 0, .ref mr, .ref ml, .int wr, .int gm, .int gh, .int gw, .int bm, .int bd, .int bc, .int ca, .ref ms, .ref mv]))] H := hP
  have hD : va_D A [(mo, .inr (6, [.int 0, .ref mr, .ref ml, .int wr, .int gm, .int gh, .int gw, .int bm, .int bd, .int bc, .int ca, .ref ms, .ref mv]))] := hD
  refine lv_iload_n hx hb dX6_grid_5 rfl (lv_at hl 1 rfl) ?_
  refine lv_bipush (v := 9) hx hb dX6_grid_6 (by decide) ?_
  refine lv_irem hx hb dX6_grid_8 (by decide) ?_
  refine lv_istore_n (lv' := [(3, .int (p1 - p1 / 9 * 9)), (0, .ref mo), (1, .int p1), (2, .int p2)]) hx hb dX6_grid_9 rfl hl (by decide) rfl (fun ls hl => ?_)
  refine lv_iload_n hx hb dX6_grid_10 rfl (lv_at hl 3 rfl) ?_
  refine lv_bipush (v := 9) hx hb dX6_grid_11 (by decide) ?_
  refine lv_irem hx hb dX6_grid_13 (by decide) ?_
  refine lv_istore (lv' := [(4, .int (p2 - p2 / 9 * 9)), (3, .int (p1 - p1 / 9 * 9)), (0, .ref mo), (1, .int p1), (2, .int p2)]) hx hb dX6_grid_14 hl (by decide) rfl (fun ls hl => ?_)
  refine lv_iload_n hx hb dX6_grid_16 rfl (lv_at hl 1 rfl) ?_
  refine lv_if_lt (tgt := 25) hx hb dX6_grid_17 (by decide) (fun c_1 => ?_) (fun c_1 => ?_)
  · exact absurd c_1 hc
  · refine lv_iload hx hb dX6_grid_20 (lv_at hl 0 rfl) ?_
    refine lv_if_ge (tgt := 31) hx hb dX6_grid_22 (by decide) (fun c_2 => ?_) (fun c_2 => ?_)
    · refine lv_aload_n hx hb dX6_grid_31 rfl (lv_at hl 2 rfl) ?_
      refine lv_iconst (v := 1) hx hb dX6_grid_32 (by decide) ?_
      refine va_put (D := (dC, dI)) (ci := 6) (v := .int 1) (ty := .boolean) (C := RX6) (T := TX6) (N := 13) hx hb (ly_6 h hb0) (fun _ z => z) tyX6 tyX6_ok nmX6 hown hK hP hD hS 0 rfl rfl 4 (by decide) (k_535 h hb0) (fun _ z => z) rfl (by decide +kernel) rfl rfl (Nat.le_of_ble_eq_true rfl) dX6_grid_33 (fun H locs hP hD hS => ?_)
      have hP : va_P (dC, dI) vwCl [(mo, .inr (6, [.int 0, .ref mr, .ref ml, .int wr, .int 1, .int gh, .int gw, .int bm, .int bd, .int bc, .int ca, .ref ms, .ref mv]))] H := hP
      have hD : va_D A [(mo, .inr (6, [.int 0, .ref mr, .ref ml, .int wr, .int 1, .int gh, .int gw, .int bm, .int bd, .int bc, .int ca, .ref ms, .ref mv]))] := hD
      refine lv_aload_n hx hb dX6_grid_36 rfl (lv_at hl 2 rfl) ?_
      refine lv_iload_n hx hb dX6_grid_37 rfl (lv_at hl 1 rfl) ?_
      refine va_put (D := (dC, dI)) (ci := 6) (v := .int (p1 - p1 / 9 * 9)) (ty := .int) (C := RX6) (T := TX6) (N := 13) hx hb (ly_6 h hb0) (fun _ z => z) tyX6 tyX6_ok nmX6 hown hK hP hD hS 0 rfl rfl 5 (by decide) (k_536 h hb0) (fun _ z => z) rfl (by decide +kernel) rfl rfl (Nat.le_of_ble_eq_true rfl) dX6_grid_38 (fun H locs hP hD hS => ?_)
      have hP : va_P (dC, dI) vwCl [(mo, .inr (6, [.int 0, .ref mr, .ref ml, .int wr, .int 1, .int (p1 - p1 / 9 * 9), .int gw, .int bm, .int bd, .int bc, .int ca, .ref ms, .ref mv]))] H := hP
      have hD : va_D A [(mo, .inr (6, [.int 0, .ref mr, .ref ml, .int wr, .int 1, .int (p1 - p1 / 9 * 9), .int gw, .int bm, .int bd, .int bc, .int ca, .ref ms, .ref mv]))] := hD
      refine lv_aload_n hx hb dX6_grid_41 rfl (lv_at hl 2 rfl) ?_
      refine lv_iload hx hb dX6_grid_42 (lv_at hl 0 rfl) ?_
      refine va_put (D := (dC, dI)) (ci := 6) (v := .int (p2 - p2 / 9 * 9)) (ty := .int) (C := RX6) (T := TX6) (N := 13) hx hb (ly_6 h hb0) (fun _ z => z) tyX6 tyX6_ok nmX6 hown hK hP hD hS 0 rfl rfl 6 (by decide) (k_537 h hb0) (fun _ z => z) rfl (by decide +kernel) rfl rfl (Nat.le_of_ble_eq_true rfl) dX6_grid_44 (fun H locs hP hD hS => ?_)
      have hP : va_P (dC, dI) vwCl [(mo, .inr (6, [.int 0, .ref mr, .ref ml, .int wr, .int 1, .int (p1 - p1 / 9 * 9), .int (p2 - p2 / 9 * 9), .int bm, .int bd, .int bc, .int ca, .ref ms, .ref mv]))] H := hP
      have hD : va_D A [(mo, .inr (6, [.int 0, .ref mr, .ref ml, .int wr, .int 1, .int (p1 - p1 / 9 * 9), .int (p2 - p2 / 9 * 9), .int bm, .int bd, .int bc, .int ca, .ref ms, .ref mv]))] := hD
      refine lv_iload_n hx hb dX6_grid_47 rfl (lv_at hl 1 rfl) ?_
      refine lv_iload hx hb dX6_grid_48 (lv_at hl 0 rfl) ?_
      refine lv_imul hx hb dX6_grid_50 ?_
      exact W.iret hx hb hr (fun t ht _ => ⟨(some (.int ((p1 - p1 / 9 * 9) * (p2 - p2 / 9 * 9)))), _, rfl, ⟨rfl, rfl⟩, by rw [ht]; exact hP, hD, hS.F ht⟩) (fun q z => hS.2.2 q z) dX6_grid_51
    · exact absurd (Int32.not_lt.mp hd) c_2
set_option maxHeartbeats 4000000 in
set_option maxRecDepth 100000 in
theorem m_grid_1 {l : Launch} {s0 : State} {a0 : Array Value} {dC : Nat → ClassId} {dI : Nat → Nat → Nat} {cA : Nat → ClassId} (h : xC l s0 a0 dC dI cA) (mo mr ml ms mv : Nat) (th wr gm gh gw bm bd bc ca : Int32) (p1 p2 : Int32) (sz : Nat) (hc : p1 - p1 / 9 * 9 < 0) : Met l yX6_grid [Cond.code yX6_grid cX6_grid 5 (some .int)] ({ frames := 1, cells := 0, slots := 0, locals := 40 } : Room) (xPM s0 (dC, dI) [.ref mo, .int p1, .int p2] [] [(mo, .inr (6, [.int th, .ref mr, .ref ml, .int wr, .int gm, .int gh, .int gw, .int bm, .int bd, .int bc, .int ca, .ref ms, .ref mv]))] sz) (xQM (dC, dI) (va_A [(mo, .inr (6, [.int th, .ref mr, .ref ml, .int wr, .int gm, .int gh, .int gw, .int bm, .int bd, .int bc, .int ca, .ref ms, .ref mv]))] sz) (fun r w1 => r = some (.int 0) ∧ w1 = [(mo, .inr (6, [.int 1, .ref mr, .ref ml, .int wr, .int gm, .int gh, .int gw, .int bm, .int bd, .int bc, .int ca, .ref ms, .ref mv]))])) 0 0 (va_A [(mo, .inr (6, [.int th, .ref mr, .ref ml, .int wr, .int gm, .int gh, .int gw, .int bm, .int bd, .int bc, .int ca, .ref ms, .ref mv]))] sz) := by
  refine Met.ofW (cc := cX6_grid) (maxL := 5) (ret := (some .int)) (by decide) rfl ?_
  intro p e s m args below meth c s₁ B hml hv
  obtain ⟨rfl, rfl, hb0, hPr, hP, hD0⟩ := hv
  have hx := B.exec
  have hb := B.bytes
  have hr := B.returns
  have hown : s.vm.findClass RX6 = some m.cls := findClass_of_methodNamed B.named
  have hlocks := B.notSynchronized
  have hK := h.K hb0
  have hS : va_S (va_A [(mo, .inr (6, [.int th, .ref mr, .ref ml, .int wr, .int gm, .int gh, .int gw, .int bm, .int bd, .int bc, .int ca, .ref ms, .ref mv]))] s.heap.size) s.heap s.heap [] := va_S.rf
  obtain ⟨A, hAe, hD, hA, hz, hRo, hwk, hnR⟩ := xM_start hb0 hPr hP hD0
  rw [hAe] at hS ⊢
  have hl := lv_entry ([.ref mo, .int p1, .int p2]) (n := 5) (Nat.le_of_ble_eq_true rfl)
  rw [lg_entry_eq]
  generalize (lg_sl ([.ref mo, .int p1, .int p2]) ++ List.replicate (5 - (lg_sl ([.ref mo, .int p1, .int p2])).length) Slot.unset).toArray = ls at hl ⊢
  have hl : lv_has ls 5 [(0, .ref mo), (1, .int p1), (2, .int p2)] := hl
  refine lv_aload_n hx hb dX6_grid_0 rfl (lv_at hl 0 rfl) ?_
  refine lv_iconst (v := 0) hx hb dX6_grid_1 (by decide) ?_
  refine va_put (D := (dC, dI)) (ci := 6) (v := .int 0) (ty := .int) (C := RX6) (T := TX6) (N := 13) hx hb (ly_6 h hb0) (fun _ z => z) tyX6 tyX6_ok nmX6 hown hK hP hD hS 0 rfl rfl 0 (by decide) (k_531 h hb0) (fun _ z => z) rfl (by decide +kernel) rfl rfl (Nat.le_of_ble_eq_true rfl) dX6_grid_2 (fun H locs hP hD hS => ?_)
  have hP : va_P (dC, dI) vwCl [(mo, .inr (6, [.int 0, .ref mr, .ref ml, .int wr, .int gm, .int gh, .int gw, .int bm, .int bd, .int bc, .int ca, .ref ms, .ref mv]))] H := hP
  have hD : va_D A [(mo, .inr (6, [.int 0, .ref mr, .ref ml, .int wr, .int gm, .int gh, .int gw, .int bm, .int bd, .int bc, .int ca, .ref ms, .ref mv]))] := hD
  refine lv_iload_n hx hb dX6_grid_5 rfl (lv_at hl 1 rfl) ?_
  refine lv_bipush (v := 9) hx hb dX6_grid_6 (by decide) ?_
  refine lv_irem hx hb dX6_grid_8 (by decide) ?_
  refine lv_istore_n (lv' := [(3, .int (p1 - p1 / 9 * 9)), (0, .ref mo), (1, .int p1), (2, .int p2)]) hx hb dX6_grid_9 rfl hl (by decide) rfl (fun ls hl => ?_)
  refine lv_iload_n hx hb dX6_grid_10 rfl (lv_at hl 3 rfl) ?_
  refine lv_bipush (v := 9) hx hb dX6_grid_11 (by decide) ?_
  refine lv_irem hx hb dX6_grid_13 (by decide) ?_
  refine lv_istore (lv' := [(4, .int (p2 - p2 / 9 * 9)), (3, .int (p1 - p1 / 9 * 9)), (0, .ref mo), (1, .int p1), (2, .int p2)]) hx hb dX6_grid_14 hl (by decide) rfl (fun ls hl => ?_)
  refine lv_iload_n hx hb dX6_grid_16 rfl (lv_at hl 1 rfl) ?_
  refine lv_if_lt (tgt := 25) hx hb dX6_grid_17 (by decide) (fun c_1 => ?_) (fun c_1 => ?_)
  · refine lv_aload_n hx hb dX6_grid_25 rfl (lv_at hl 2 rfl) ?_
    refine lv_iconst (v := 1) hx hb dX6_grid_26 (by decide) ?_
    refine xm_of (wc := [(mo, .inr (6, [.int 0, .ref mr, .ref ml, .int wr, .int gm, .int gh, .int gw, .int bm, .int bd, .int bc, .int ca, .ref ms, .ref mv]))]) (wo := []) (va_runV (As := [.int 1]) (rest := []) ⟨hx, hb, hml, hown, xTs⟩ (c_fails h mo mr ml ms mv 0 wr gm gh gw bm bd bc ca 1 _) ⟨xB (n := 1) (k_582 h hb0) (k_5 h hb0) (k_579 h hb0) (by decide) rfl rfl rfl (by decide) (by decide), (k_581 h hb0), (ks_3 h hb0)⟩ (xpMV (wr := []) (wc := [(mo, .inr (6, [.int 0, .ref mr, .ref ml, .int wr, .int gm, .int gh, .int gw, .int bm, .int bd, .int bc, .int ca, .ref ms, .ref mv]))]) hb0 hS hz (va_P.sub hP [] rfl) (va_P.sub hP [0] rfl) (va_D.sub (hwk _ hD) [0] rfl rfl) (va_recv hK hP (ci := 6) (q0 := 0) rfl rfl)) rfl rfl hl.1 rfl (lv_room (Nat.le_of_ble_eq_true rfl)) dX6_grid_27 ⟨(Nat.le_of_ble_eq_true rfl), (Nat.le_of_ble_eq_true rfl)⟩) hP hD hS hA [0] [] rfl rfl rfl (by decide) (fun r w1 H locs hΦ hP hD hS => ?_)
    obtain ⟨rfl, rfl⟩ := hΦ
    have hP : va_P (dC, dI) vwCl [(mo, .inr (6, [.int 1, .ref mr, .ref ml, .int wr, .int gm, .int gh, .int gw, .int bm, .int bd, .int bc, .int ca, .ref ms, .ref mv]))] H := hP
    have hD : va_D A [(mo, .inr (6, [.int 1, .ref mr, .ref ml, .int wr, .int gm, .int gh, .int gw, .int bm, .int bd, .int bc, .int ca, .ref ms, .ref mv]))] := hD
    exact W.iret hx hb hr (fun t ht _ => ⟨(some (.int 0)), _, rfl, ⟨rfl, rfl⟩, by rw [ht]; exact hP, hD, hS.F ht⟩) (fun q z => hS.2.2 q z) dX6_grid_30
  · exact absurd hc c_1
set_option maxHeartbeats 4000000 in
set_option maxRecDepth 100000 in
theorem m_grid_2 {l : Launch} {s0 : State} {a0 : Array Value} {dC : Nat → ClassId} {dI : Nat → Nat → Nat} {cA : Nat → ClassId} (h : xC l s0 a0 dC dI cA) (mo mr ml ms mv : Nat) (th wr gm gh gw bm bd bc ca : Int32) (p1 p2 : Int32) (sz : Nat) (hc : ¬ p1 - p1 / 9 * 9 < 0) (hd : p2 - p2 / 9 * 9 < 0) : Met l yX6_grid [Cond.code yX6_grid cX6_grid 5 (some .int)] ({ frames := 1, cells := 0, slots := 0, locals := 40 } : Room) (xPM s0 (dC, dI) [.ref mo, .int p1, .int p2] [] [(mo, .inr (6, [.int th, .ref mr, .ref ml, .int wr, .int gm, .int gh, .int gw, .int bm, .int bd, .int bc, .int ca, .ref ms, .ref mv]))] sz) (xQM (dC, dI) (va_A [(mo, .inr (6, [.int th, .ref mr, .ref ml, .int wr, .int gm, .int gh, .int gw, .int bm, .int bd, .int bc, .int ca, .ref ms, .ref mv]))] sz) (fun r w1 => r = some (.int 0) ∧ w1 = [(mo, .inr (6, [.int 1, .ref mr, .ref ml, .int wr, .int gm, .int gh, .int gw, .int bm, .int bd, .int bc, .int ca, .ref ms, .ref mv]))])) 0 0 (va_A [(mo, .inr (6, [.int th, .ref mr, .ref ml, .int wr, .int gm, .int gh, .int gw, .int bm, .int bd, .int bc, .int ca, .ref ms, .ref mv]))] sz) := by
  refine Met.ofW (cc := cX6_grid) (maxL := 5) (ret := (some .int)) (by decide) rfl ?_
  intro p e s m args below meth c s₁ B hml hv
  obtain ⟨rfl, rfl, hb0, hPr, hP, hD0⟩ := hv
  have hx := B.exec
  have hb := B.bytes
  have hr := B.returns
  have hown : s.vm.findClass RX6 = some m.cls := findClass_of_methodNamed B.named
  have hlocks := B.notSynchronized
  have hK := h.K hb0
  have hS : va_S (va_A [(mo, .inr (6, [.int th, .ref mr, .ref ml, .int wr, .int gm, .int gh, .int gw, .int bm, .int bd, .int bc, .int ca, .ref ms, .ref mv]))] s.heap.size) s.heap s.heap [] := va_S.rf
  obtain ⟨A, hAe, hD, hA, hz, hRo, hwk, hnR⟩ := xM_start hb0 hPr hP hD0
  rw [hAe] at hS ⊢
  have hl := lv_entry ([.ref mo, .int p1, .int p2]) (n := 5) (Nat.le_of_ble_eq_true rfl)
  rw [lg_entry_eq]
  generalize (lg_sl ([.ref mo, .int p1, .int p2]) ++ List.replicate (5 - (lg_sl ([.ref mo, .int p1, .int p2])).length) Slot.unset).toArray = ls at hl ⊢
  have hl : lv_has ls 5 [(0, .ref mo), (1, .int p1), (2, .int p2)] := hl
  refine lv_aload_n hx hb dX6_grid_0 rfl (lv_at hl 0 rfl) ?_
  refine lv_iconst (v := 0) hx hb dX6_grid_1 (by decide) ?_
  refine va_put (D := (dC, dI)) (ci := 6) (v := .int 0) (ty := .int) (C := RX6) (T := TX6) (N := 13) hx hb (ly_6 h hb0) (fun _ z => z) tyX6 tyX6_ok nmX6 hown hK hP hD hS 0 rfl rfl 0 (by decide) (k_531 h hb0) (fun _ z => z) rfl (by decide +kernel) rfl rfl (Nat.le_of_ble_eq_true rfl) dX6_grid_2 (fun H locs hP hD hS => ?_)
  have hP : va_P (dC, dI) vwCl [(mo, .inr (6, [.int 0, .ref mr, .ref ml, .int wr, .int gm, .int gh, .int gw, .int bm, .int bd, .int bc, .int ca, .ref ms, .ref mv]))] H := hP
  have hD : va_D A [(mo, .inr (6, [.int 0, .ref mr, .ref ml, .int wr, .int gm, .int gh, .int gw, .int bm, .int bd, .int bc, .int ca, .ref ms, .ref mv]))] := hD
  refine lv_iload_n hx hb dX6_grid_5 rfl (lv_at hl 1 rfl) ?_
  refine lv_bipush (v := 9) hx hb dX6_grid_6 (by decide) ?_
  refine lv_irem hx hb dX6_grid_8 (by decide) ?_
  refine lv_istore_n (lv' := [(3, .int (p1 - p1 / 9 * 9)), (0, .ref mo), (1, .int p1), (2, .int p2)]) hx hb dX6_grid_9 rfl hl (by decide) rfl (fun ls hl => ?_)
  refine lv_iload_n hx hb dX6_grid_10 rfl (lv_at hl 3 rfl) ?_
  refine lv_bipush (v := 9) hx hb dX6_grid_11 (by decide) ?_
  refine lv_irem hx hb dX6_grid_13 (by decide) ?_
  refine lv_istore (lv' := [(4, .int (p2 - p2 / 9 * 9)), (3, .int (p1 - p1 / 9 * 9)), (0, .ref mo), (1, .int p1), (2, .int p2)]) hx hb dX6_grid_14 hl (by decide) rfl (fun ls hl => ?_)
  refine lv_iload_n hx hb dX6_grid_16 rfl (lv_at hl 1 rfl) ?_
  refine lv_if_lt (tgt := 25) hx hb dX6_grid_17 (by decide) (fun c_1 => ?_) (fun c_1 => ?_)
  · exact absurd c_1 hc
  · refine lv_iload hx hb dX6_grid_20 (lv_at hl 0 rfl) ?_
    refine lv_if_ge (tgt := 31) hx hb dX6_grid_22 (by decide) (fun c_2 => ?_) (fun c_2 => ?_)
    · exact absurd hd (Int32.not_lt.mpr c_2)
    · refine lv_aload_n hx hb dX6_grid_25 rfl (lv_at hl 2 rfl) ?_
      refine lv_iconst (v := 1) hx hb dX6_grid_26 (by decide) ?_
      refine xm_of (wc := [(mo, .inr (6, [.int 0, .ref mr, .ref ml, .int wr, .int gm, .int gh, .int gw, .int bm, .int bd, .int bc, .int ca, .ref ms, .ref mv]))]) (wo := []) (va_runV (As := [.int 1]) (rest := []) ⟨hx, hb, hml, hown, xTs⟩ (c_fails h mo mr ml ms mv 0 wr gm gh gw bm bd bc ca 1 _) ⟨xB (n := 1) (k_582 h hb0) (k_5 h hb0) (k_579 h hb0) (by decide) rfl rfl rfl (by decide) (by decide), (k_581 h hb0), (ks_3 h hb0)⟩ (xpMV (wr := []) (wc := [(mo, .inr (6, [.int 0, .ref mr, .ref ml, .int wr, .int gm, .int gh, .int gw, .int bm, .int bd, .int bc, .int ca, .ref ms, .ref mv]))]) hb0 hS hz (va_P.sub hP [] rfl) (va_P.sub hP [0] rfl) (va_D.sub (hwk _ hD) [0] rfl rfl) (va_recv hK hP (ci := 6) (q0 := 0) rfl rfl)) rfl rfl hl.1 rfl (lv_room (Nat.le_of_ble_eq_true rfl)) dX6_grid_27 ⟨(Nat.le_of_ble_eq_true rfl), (Nat.le_of_ble_eq_true rfl)⟩) hP hD hS hA [0] [] rfl rfl rfl (by decide) (fun r w1 H locs hΦ hP hD hS => ?_)
      obtain ⟨rfl, rfl⟩ := hΦ
      have hP : va_P (dC, dI) vwCl [(mo, .inr (6, [.int 1, .ref mr, .ref ml, .int wr, .int gm, .int gh, .int gw, .int bm, .int bd, .int bc, .int ca, .ref ms, .ref mv]))] H := hP
      have hD : va_D A [(mo, .inr (6, [.int 1, .ref mr, .ref ml, .int wr, .int gm, .int gh, .int gw, .int bm, .int bd, .int bc, .int ca, .ref ms, .ref mv]))] := hD
      exact W.iret hx hb hr (fun t ht _ => ⟨(some (.int 0)), _, rfl, ⟨rfl, rfl⟩, by rw [ht]; exact hP, hD, hS.F ht⟩) (fun q z => hS.2.2 q z) dX6_grid_30
set_option maxHeartbeats 4000000 in
set_option maxRecDepth 100000 in
theorem m_cell_c {l : Launch} {s0 : State} {a0 : Array Value} {dC : Nat → ClassId} {dI : Nat → Nat → Nat} {cA : Nat → ClassId} (h : xC l s0 a0 dC dI cA) (mo mr ml ms mv : Nat) (th wr gm gh gw bm bd bc ca : Int32) (p1 p2 : Int32) (sz : Nat) (ht : ¬ gm = 0) (h0 : ¬ p1 < 0) (h1 : p1 < gh) (h2 : ¬ p2 < 0) (h3 : p2 < gw) : Met l yX6_cell [Cond.code yX6_cell cX6_cell 3 (some .int)] ({ frames := 1, cells := 0, slots := 0, locals := 40 } : Room) (xPM s0 (dC, dI) [.ref mo, .int p1, .int p2] [] [(mo, .inr (6, [.int th, .ref mr, .ref ml, .int wr, .int gm, .int gh, .int gw, .int bm, .int bd, .int bc, .int ca, .ref ms, .ref mv]))] sz) (xQM (dC, dI) (va_A [(mo, .inr (6, [.int th, .ref mr, .ref ml, .int wr, .int gm, .int gh, .int gw, .int bm, .int bd, .int bc, .int ca, .ref ms, .ref mv]))] sz) (fun r w1 => r = some (.int (10 * p1 + p2)) ∧ w1 = [(mo, .inr (6, [.int 0, .ref mr, .ref ml, .int wr, .int gm, .int gh, .int gw, .int bm, .int bd, .int bc, .int ca, .ref ms, .ref mv]))])) 0 0 (va_A [(mo, .inr (6, [.int th, .ref mr, .ref ml, .int wr, .int gm, .int gh, .int gw, .int bm, .int bd, .int bc, .int ca, .ref ms, .ref mv]))] sz) := by
  refine Met.ofW (cc := cX6_cell) (maxL := 3) (ret := (some .int)) (by decide) rfl ?_
  intro p e s m args below meth c s₁ B hml hv
  obtain ⟨rfl, rfl, hb0, hPr, hP, hD0⟩ := hv
  have hx := B.exec
  have hb := B.bytes
  have hr := B.returns
  have hown : s.vm.findClass RX6 = some m.cls := findClass_of_methodNamed B.named
  have hlocks := B.notSynchronized
  have hK := h.K hb0
  have hS : va_S (va_A [(mo, .inr (6, [.int th, .ref mr, .ref ml, .int wr, .int gm, .int gh, .int gw, .int bm, .int bd, .int bc, .int ca, .ref ms, .ref mv]))] s.heap.size) s.heap s.heap [] := va_S.rf
  obtain ⟨A, hAe, hD, hA, hz, hRo, hwk, hnR⟩ := xM_start hb0 hPr hP hD0
  rw [hAe] at hS ⊢
  have hl := lv_entry ([.ref mo, .int p1, .int p2]) (n := 3) (Nat.le_of_ble_eq_true rfl)
  rw [lg_entry_eq]
  generalize (lg_sl ([.ref mo, .int p1, .int p2]) ++ List.replicate (3 - (lg_sl ([.ref mo, .int p1, .int p2])).length) Slot.unset).toArray = ls at hl ⊢
  have hl : lv_has ls 3 [(0, .ref mo), (1, .int p1), (2, .int p2)] := hl
  refine lv_aload_n hx hb dX6_cell_0 rfl (lv_at hl 0 rfl) ?_
  refine lv_iconst (v := 0) hx hb dX6_cell_1 (by decide) ?_
  refine va_put (D := (dC, dI)) (ci := 6) (v := .int 0) (ty := .int) (C := RX6) (T := TX6) (N := 13) hx hb (ly_6 h hb0) (fun _ z => z) tyX6 tyX6_ok nmX6 hown hK hP hD hS 0 rfl rfl 0 (by decide) (k_531 h hb0) (fun _ z => z) rfl (by decide +kernel) rfl rfl (Nat.le_of_ble_eq_true rfl) dX6_cell_2 (fun H locs hP hD hS => ?_)
  have hP : va_P (dC, dI) vwCl [(mo, .inr (6, [.int 0, .ref mr, .ref ml, .int wr, .int gm, .int gh, .int gw, .int bm, .int bd, .int bc, .int ca, .ref ms, .ref mv]))] H := hP
  have hD : va_D A [(mo, .inr (6, [.int 0, .ref mr, .ref ml, .int wr, .int gm, .int gh, .int gw, .int bm, .int bd, .int bc, .int ca, .ref ms, .ref mv]))] := hD
  refine lv_aload_n hx hb dX6_cell_5 rfl (lv_at hl 0 rfl) ?_
  refine va_get (D := (dC, dI)) (ci := 6) (v := .int gm) (C := RX6) (T := TX6) (N := 13) hx hb (ly_6 h hb0) (fun _ z => z) hown hK hP 0 rfl rfl 4 (by decide) (k_535 h hb0) (fun _ z => z) rfl dX6_cell_6 ?_
  refine lv_if_ne (tgt := 18) hx hb dX6_cell_9 (by decide) (fun c_1 => ?_) (fun c_1 => ?_)
  · refine lv_iload_n hx hb dX6_cell_18 rfl (lv_at hl 1 rfl) ?_
    refine lv_if_lt (tgt := 42) hx hb dX6_cell_19 (by decide) (fun c_2 => ?_) (fun c_2 => ?_)
    · exact absurd c_2 h0
    · refine lv_iload_n hx hb dX6_cell_22 rfl (lv_at hl 1 rfl) ?_
      refine lv_aload_n hx hb dX6_cell_23 rfl (lv_at hl 0 rfl) ?_
      refine va_get (D := (dC, dI)) (ci := 6) (v := .int gh) (C := RX6) (T := TX6) (N := 13) hx hb (ly_6 h hb0) (fun _ z => z) hown hK hP 0 rfl rfl 5 (by decide) (k_536 h hb0) (fun _ z => z) rfl dX6_cell_24 ?_
      refine lv_icmp_ge (tgt := 42) hx hb dX6_cell_27 (by decide) (fun c_3 => ?_) (fun c_3 => ?_)
      · exact absurd h1 (Int32.not_lt.mpr c_3)
      · refine lv_iload_n hx hb dX6_cell_30 rfl (lv_at hl 2 rfl) ?_
        refine lv_if_lt (tgt := 42) hx hb dX6_cell_31 (by decide) (fun c_4 => ?_) (fun c_4 => ?_)
        · exact absurd c_4 h2
        · refine lv_iload_n hx hb dX6_cell_34 rfl (lv_at hl 2 rfl) ?_
          refine lv_aload_n hx hb dX6_cell_35 rfl (lv_at hl 0 rfl) ?_
          refine va_get (D := (dC, dI)) (ci := 6) (v := .int gw) (C := RX6) (T := TX6) (N := 13) hx hb (ly_6 h hb0) (fun _ z => z) hown hK hP 0 rfl rfl 6 (by decide) (k_537 h hb0) (fun _ z => z) rfl dX6_cell_36 ?_
          refine lv_icmp_lt (tgt := 48) hx hb dX6_cell_39 (by decide) (fun c_5 => ?_) (fun c_5 => ?_)
          · refine lv_bipush (v := 10) hx hb dX6_cell_48 (by decide) ?_
            refine lv_iload_n hx hb dX6_cell_50 rfl (lv_at hl 1 rfl) ?_
            refine lv_imul hx hb dX6_cell_51 ?_
            refine lv_iload_n hx hb dX6_cell_52 rfl (lv_at hl 2 rfl) ?_
            refine lv_iadd hx hb dX6_cell_53 ?_
            exact W.iret hx hb hr (fun t ht _ => ⟨(some (.int ((10 * p1) + p2))), _, rfl, ⟨rfl, rfl⟩, by rw [ht]; exact hP, hD, hS.F ht⟩) (fun q z => hS.2.2 q z) dX6_cell_54
          · exact absurd h3 c_5
  · exact absurd c_1 ht
set_option maxHeartbeats 4000000 in
set_option maxRecDepth 100000 in
theorem m_cell_N {l : Launch} {s0 : State} {a0 : Array Value} {dC : Nat → ClassId} {dI : Nat → Nat → Nat} {cA : Nat → ClassId} (h : xC l s0 a0 dC dI cA) (mo mr ml ms mv : Nat) (th wr gm gh gw bm bd bc ca : Int32) (p1 p2 : Int32) (sz : Nat) (ht : gm = 0) : Met l yX6_cell [Cond.code yX6_cell cX6_cell 3 (some .int)] ({ frames := 1, cells := 0, slots := 0, locals := 40 } : Room) (xPM s0 (dC, dI) [.ref mo, .int p1, .int p2] [] [(mo, .inr (6, [.int th, .ref mr, .ref ml, .int wr, .int gm, .int gh, .int gw, .int bm, .int bd, .int bc, .int ca, .ref ms, .ref mv]))] sz) (xQM (dC, dI) (va_A [(mo, .inr (6, [.int th, .ref mr, .ref ml, .int wr, .int gm, .int gh, .int gw, .int bm, .int bd, .int bc, .int ca, .ref ms, .ref mv]))] sz) (fun r w1 => r = some (.int 0) ∧ w1 = [(mo, .inr (6, [.int 1, .ref mr, .ref ml, .int wr, .int gm, .int gh, .int gw, .int bm, .int bd, .int bc, .int ca, .ref ms, .ref mv]))])) 0 0 (va_A [(mo, .inr (6, [.int th, .ref mr, .ref ml, .int wr, .int gm, .int gh, .int gw, .int bm, .int bd, .int bc, .int ca, .ref ms, .ref mv]))] sz) := by
  refine Met.ofW (cc := cX6_cell) (maxL := 3) (ret := (some .int)) (by decide) rfl ?_
  intro p e s m args below meth c s₁ B hml hv
  obtain ⟨rfl, rfl, hb0, hPr, hP, hD0⟩ := hv
  have hx := B.exec
  have hb := B.bytes
  have hr := B.returns
  have hown : s.vm.findClass RX6 = some m.cls := findClass_of_methodNamed B.named
  have hlocks := B.notSynchronized
  have hK := h.K hb0
  have hS : va_S (va_A [(mo, .inr (6, [.int th, .ref mr, .ref ml, .int wr, .int gm, .int gh, .int gw, .int bm, .int bd, .int bc, .int ca, .ref ms, .ref mv]))] s.heap.size) s.heap s.heap [] := va_S.rf
  obtain ⟨A, hAe, hD, hA, hz, hRo, hwk, hnR⟩ := xM_start hb0 hPr hP hD0
  rw [hAe] at hS ⊢
  have hl := lv_entry ([.ref mo, .int p1, .int p2]) (n := 3) (Nat.le_of_ble_eq_true rfl)
  rw [lg_entry_eq]
  generalize (lg_sl ([.ref mo, .int p1, .int p2]) ++ List.replicate (3 - (lg_sl ([.ref mo, .int p1, .int p2])).length) Slot.unset).toArray = ls at hl ⊢
  have hl : lv_has ls 3 [(0, .ref mo), (1, .int p1), (2, .int p2)] := hl
  refine lv_aload_n hx hb dX6_cell_0 rfl (lv_at hl 0 rfl) ?_
  refine lv_iconst (v := 0) hx hb dX6_cell_1 (by decide) ?_
  refine va_put (D := (dC, dI)) (ci := 6) (v := .int 0) (ty := .int) (C := RX6) (T := TX6) (N := 13) hx hb (ly_6 h hb0) (fun _ z => z) tyX6 tyX6_ok nmX6 hown hK hP hD hS 0 rfl rfl 0 (by decide) (k_531 h hb0) (fun _ z => z) rfl (by decide +kernel) rfl rfl (Nat.le_of_ble_eq_true rfl) dX6_cell_2 (fun H locs hP hD hS => ?_)
  have hP : va_P (dC, dI) vwCl [(mo, .inr (6, [.int 0, .ref mr, .ref ml, .int wr, .int gm, .int gh, .int gw, .int bm, .int bd, .int bc, .int ca, .ref ms, .ref mv]))] H := hP
  have hD : va_D A [(mo, .inr (6, [.int 0, .ref mr, .ref ml, .int wr, .int gm, .int gh, .int gw, .int bm, .int bd, .int bc, .int ca, .ref ms, .ref mv]))] := hD
  refine lv_aload_n hx hb dX6_cell_5 rfl (lv_at hl 0 rfl) ?_
  refine va_get (D := (dC, dI)) (ci := 6) (v := .int gm) (C := RX6) (T := TX6) (N := 13) hx hb (ly_6 h hb0) (fun _ z => z) hown hK hP 0 rfl rfl 4 (by decide) (k_535 h hb0) (fun _ z => z) rfl dX6_cell_6 ?_
  refine lv_if_ne (tgt := 18) hx hb dX6_cell_9 (by decide) (fun c_1 => ?_) (fun c_1 => ?_)
  · exact absurd ht c_1
  · refine lv_aload_n hx hb dX6_cell_12 rfl (lv_at hl 0 rfl) ?_
    refine lv_iconst (v := 1) hx hb dX6_cell_13 (by decide) ?_
    refine xm_of (wc := [(mo, .inr (6, [.int 0, .ref mr, .ref ml, .int wr, .int gm, .int gh, .int gw, .int bm, .int bd, .int bc, .int ca, .ref ms, .ref mv]))]) (wo := []) (va_runV (As := [.int 1]) (rest := []) ⟨hx, hb, hml, hown, xTs⟩ (c_fails h mo mr ml ms mv 0 wr gm gh gw bm bd bc ca 1 _) ⟨xB (n := 1) (k_582 h hb0) (k_5 h hb0) (k_579 h hb0) (by decide) rfl rfl rfl (by decide) (by decide), (k_581 h hb0), (ks_3 h hb0)⟩ (xpMV (wr := []) (wc := [(mo, .inr (6, [.int 0, .ref mr, .ref ml, .int wr, .int gm, .int gh, .int gw, .int bm, .int bd, .int bc, .int ca, .ref ms, .ref mv]))]) hb0 hS hz (va_P.sub hP [] rfl) (va_P.sub hP [0] rfl) (va_D.sub (hwk _ hD) [0] rfl rfl) (va_recv hK hP (ci := 6) (q0 := 0) rfl rfl)) rfl rfl hl.1 rfl (lv_room (Nat.le_of_ble_eq_true rfl)) dX6_cell_14 ⟨(Nat.le_of_ble_eq_true rfl), (Nat.le_of_ble_eq_true rfl)⟩) hP hD hS hA [0] [] rfl rfl rfl (by decide) (fun r w1 H locs hΦ hP hD hS => ?_)
    obtain ⟨rfl, rfl⟩ := hΦ
    have hP : va_P (dC, dI) vwCl [(mo, .inr (6, [.int 1, .ref mr, .ref ml, .int wr, .int gm, .int gh, .int gw, .int bm, .int bd, .int bc, .int ca, .ref ms, .ref mv]))] H := hP
    have hD : va_D A [(mo, .inr (6, [.int 1, .ref mr, .ref ml, .int wr, .int gm, .int gh, .int gw, .int bm, .int bd, .int bc, .int ca, .ref ms, .ref mv]))] := hD
    exact W.iret hx hb hr (fun t ht _ => ⟨(some (.int 0)), _, rfl, ⟨rfl, rfl⟩, by rw [ht]; exact hP, hD, hS.F ht⟩) (fun q z => hS.2.2 q z) dX6_cell_17
set_option maxHeartbeats 4000000 in
set_option maxRecDepth 100000 in
theorem m_cell_1 {l : Launch} {s0 : State} {a0 : Array Value} {dC : Nat → ClassId} {dI : Nat → Nat → Nat} {cA : Nat → ClassId} (h : xC l s0 a0 dC dI cA) (mo mr ml ms mv : Nat) (th wr gm gh gw bm bd bc ca : Int32) (p1 p2 : Int32) (sz : Nat) (ht : ¬ gm = 0) (hc : p1 < 0 ∨ ¬ p1 < gh) : Met l yX6_cell [Cond.code yX6_cell cX6_cell 3 (some .int)] ({ frames := 1, cells := 0, slots := 0, locals := 40 } : Room) (xPM s0 (dC, dI) [.ref mo, .int p1, .int p2] [] [(mo, .inr (6, [.int th, .ref mr, .ref ml, .int wr, .int gm, .int gh, .int gw, .int bm, .int bd, .int bc, .int ca, .ref ms, .ref mv]))] sz) (xQM (dC, dI) (va_A [(mo, .inr (6, [.int th, .ref mr, .ref ml, .int wr, .int gm, .int gh, .int gw, .int bm, .int bd, .int bc, .int ca, .ref ms, .ref mv]))] sz) (fun r w1 => r = some (.int 0) ∧ w1 = [(mo, .inr (6, [.int 2, .ref mr, .ref ml, .int wr, .int gm, .int gh, .int gw, .int bm, .int bd, .int bc, .int ca, .ref ms, .ref mv]))])) 0 0 (va_A [(mo, .inr (6, [.int th, .ref mr, .ref ml, .int wr, .int gm, .int gh, .int gw, .int bm, .int bd, .int bc, .int ca, .ref ms, .ref mv]))] sz) := by
  refine Met.ofW (cc := cX6_cell) (maxL := 3) (ret := (some .int)) (by decide) rfl ?_
  intro p e s m args below meth c s₁ B hml hv
  obtain ⟨rfl, rfl, hb0, hPr, hP, hD0⟩ := hv
  have hx := B.exec
  have hb := B.bytes
  have hr := B.returns
  have hown : s.vm.findClass RX6 = some m.cls := findClass_of_methodNamed B.named
  have hlocks := B.notSynchronized
  have hK := h.K hb0
  have hS : va_S (va_A [(mo, .inr (6, [.int th, .ref mr, .ref ml, .int wr, .int gm, .int gh, .int gw, .int bm, .int bd, .int bc, .int ca, .ref ms, .ref mv]))] s.heap.size) s.heap s.heap [] := va_S.rf
  obtain ⟨A, hAe, hD, hA, hz, hRo, hwk, hnR⟩ := xM_start hb0 hPr hP hD0
  rw [hAe] at hS ⊢
  have hl := lv_entry ([.ref mo, .int p1, .int p2]) (n := 3) (Nat.le_of_ble_eq_true rfl)
  rw [lg_entry_eq]
  generalize (lg_sl ([.ref mo, .int p1, .int p2]) ++ List.replicate (3 - (lg_sl ([.ref mo, .int p1, .int p2])).length) Slot.unset).toArray = ls at hl ⊢
  have hl : lv_has ls 3 [(0, .ref mo), (1, .int p1), (2, .int p2)] := hl
  refine lv_aload_n hx hb dX6_cell_0 rfl (lv_at hl 0 rfl) ?_
  refine lv_iconst (v := 0) hx hb dX6_cell_1 (by decide) ?_
  refine va_put (D := (dC, dI)) (ci := 6) (v := .int 0) (ty := .int) (C := RX6) (T := TX6) (N := 13) hx hb (ly_6 h hb0) (fun _ z => z) tyX6 tyX6_ok nmX6 hown hK hP hD hS 0 rfl rfl 0 (by decide) (k_531 h hb0) (fun _ z => z) rfl (by decide +kernel) rfl rfl (Nat.le_of_ble_eq_true rfl) dX6_cell_2 (fun H locs hP hD hS => ?_)
  have hP : va_P (dC, dI) vwCl [(mo, .inr (6, [.int 0, .ref mr, .ref ml, .int wr, .int gm, .int gh, .int gw, .int bm, .int bd, .int bc, .int ca, .ref ms, .ref mv]))] H := hP
  have hD : va_D A [(mo, .inr (6, [.int 0, .ref mr, .ref ml, .int wr, .int gm, .int gh, .int gw, .int bm, .int bd, .int bc, .int ca, .ref ms, .ref mv]))] := hD
  refine lv_aload_n hx hb dX6_cell_5 rfl (lv_at hl 0 rfl) ?_
  refine va_get (D := (dC, dI)) (ci := 6) (v := .int gm) (C := RX6) (T := TX6) (N := 13) hx hb (ly_6 h hb0) (fun _ z => z) hown hK hP 0 rfl rfl 4 (by decide) (k_535 h hb0) (fun _ z => z) rfl dX6_cell_6 ?_
  refine lv_if_ne (tgt := 18) hx hb dX6_cell_9 (by decide) (fun c_1 => ?_) (fun c_1 => ?_)
  · refine lv_iload_n hx hb dX6_cell_18 rfl (lv_at hl 1 rfl) ?_
    refine lv_if_lt (tgt := 42) hx hb dX6_cell_19 (by decide) (fun c_2 => ?_) (fun c_2 => ?_)
    · refine lv_aload_n hx hb dX6_cell_42 rfl (lv_at hl 0 rfl) ?_
      refine lv_iconst (v := 2) hx hb dX6_cell_43 (by decide) ?_
      refine xm_of (wc := [(mo, .inr (6, [.int 0, .ref mr, .ref ml, .int wr, .int gm, .int gh, .int gw, .int bm, .int bd, .int bc, .int ca, .ref ms, .ref mv]))]) (wo := []) (va_runV (As := [.int 2]) (rest := []) ⟨hx, hb, hml, hown, xTs⟩ (c_fails h mo mr ml ms mv 0 wr gm gh gw bm bd bc ca 2 _) ⟨xB (n := 1) (k_582 h hb0) (k_5 h hb0) (k_579 h hb0) (by decide) rfl rfl rfl (by decide) (by decide), (k_581 h hb0), (ks_3 h hb0)⟩ (xpMV (wr := []) (wc := [(mo, .inr (6, [.int 0, .ref mr, .ref ml, .int wr, .int gm, .int gh, .int gw, .int bm, .int bd, .int bc, .int ca, .ref ms, .ref mv]))]) hb0 hS hz (va_P.sub hP [] rfl) (va_P.sub hP [0] rfl) (va_D.sub (hwk _ hD) [0] rfl rfl) (va_recv hK hP (ci := 6) (q0 := 0) rfl rfl)) rfl rfl hl.1 rfl (lv_room (Nat.le_of_ble_eq_true rfl)) dX6_cell_44 ⟨(Nat.le_of_ble_eq_true rfl), (Nat.le_of_ble_eq_true rfl)⟩) hP hD hS hA [0] [] rfl rfl rfl (by decide) (fun r w1 H locs hΦ hP hD hS => ?_)
      obtain ⟨rfl, rfl⟩ := hΦ
      have hP : va_P (dC, dI) vwCl [(mo, .inr (6, [.int 2, .ref mr, .ref ml, .int wr, .int gm, .int gh, .int gw, .int bm, .int bd, .int bc, .int ca, .ref ms, .ref mv]))] H := hP
      have hD : va_D A [(mo, .inr (6, [.int 2, .ref mr, .ref ml, .int wr, .int gm, .int gh, .int gw, .int bm, .int bd, .int bc, .int ca, .ref ms, .ref mv]))] := hD
      exact W.iret hx hb hr (fun t ht _ => ⟨(some (.int 0)), _, rfl, ⟨rfl, rfl⟩, by rw [ht]; exact hP, hD, hS.F ht⟩) (fun q z => hS.2.2 q z) dX6_cell_47
    · refine lv_iload_n hx hb dX6_cell_22 rfl (lv_at hl 1 rfl) ?_
      refine lv_aload_n hx hb dX6_cell_23 rfl (lv_at hl 0 rfl) ?_
      refine va_get (D := (dC, dI)) (ci := 6) (v := .int gh) (C := RX6) (T := TX6) (N := 13) hx hb (ly_6 h hb0) (fun _ z => z) hown hK hP 0 rfl rfl 5 (by decide) (k_536 h hb0) (fun _ z => z) rfl dX6_cell_24 ?_
      refine lv_icmp_ge (tgt := 42) hx hb dX6_cell_27 (by decide) (fun c_3 => ?_) (fun c_3 => ?_)
      · refine lv_aload_n hx hb dX6_cell_42 rfl (lv_at hl 0 rfl) ?_
        refine lv_iconst (v := 2) hx hb dX6_cell_43 (by decide) ?_
        refine xm_of (wc := [(mo, .inr (6, [.int 0, .ref mr, .ref ml, .int wr, .int gm, .int gh, .int gw, .int bm, .int bd, .int bc, .int ca, .ref ms, .ref mv]))]) (wo := []) (va_runV (As := [.int 2]) (rest := []) ⟨hx, hb, hml, hown, xTs⟩ (c_fails h mo mr ml ms mv 0 wr gm gh gw bm bd bc ca 2 _) ⟨xB (n := 1) (k_582 h hb0) (k_5 h hb0) (k_579 h hb0) (by decide) rfl rfl rfl (by decide) (by decide), (k_581 h hb0), (ks_3 h hb0)⟩ (xpMV (wr := []) (wc := [(mo, .inr (6, [.int 0, .ref mr, .ref ml, .int wr, .int gm, .int gh, .int gw, .int bm, .int bd, .int bc, .int ca, .ref ms, .ref mv]))]) hb0 hS hz (va_P.sub hP [] rfl) (va_P.sub hP [0] rfl) (va_D.sub (hwk _ hD) [0] rfl rfl) (va_recv hK hP (ci := 6) (q0 := 0) rfl rfl)) rfl rfl hl.1 rfl (lv_room (Nat.le_of_ble_eq_true rfl)) dX6_cell_44 ⟨(Nat.le_of_ble_eq_true rfl), (Nat.le_of_ble_eq_true rfl)⟩) hP hD hS hA [0] [] rfl rfl rfl (by decide) (fun r w1 H locs hΦ hP hD hS => ?_)
        obtain ⟨rfl, rfl⟩ := hΦ
        have hP : va_P (dC, dI) vwCl [(mo, .inr (6, [.int 2, .ref mr, .ref ml, .int wr, .int gm, .int gh, .int gw, .int bm, .int bd, .int bc, .int ca, .ref ms, .ref mv]))] H := hP
        have hD : va_D A [(mo, .inr (6, [.int 2, .ref mr, .ref ml, .int wr, .int gm, .int gh, .int gw, .int bm, .int bd, .int bc, .int ca, .ref ms, .ref mv]))] := hD
        exact W.iret hx hb hr (fun t ht _ => ⟨(some (.int 0)), _, rfl, ⟨rfl, rfl⟩, by rw [ht]; exact hP, hD, hS.F ht⟩) (fun q z => hS.2.2 q z) dX6_cell_47
      · exact absurd hc (fun z => z.elim c_2 (fun y => c_3 (Int32.not_lt.mp y)))
  · exact absurd c_1 ht
set_option maxHeartbeats 4000000 in
set_option maxRecDepth 100000 in
theorem m_cell_2 {l : Launch} {s0 : State} {a0 : Array Value} {dC : Nat → ClassId} {dI : Nat → Nat → Nat} {cA : Nat → ClassId} (h : xC l s0 a0 dC dI cA) (mo mr ml ms mv : Nat) (th wr gm gh gw bm bd bc ca : Int32) (p1 p2 : Int32) (sz : Nat) (ht : ¬ gm = 0) (h0 : ¬ p1 < 0) (h1 : p1 < gh) (hc : p2 < 0 ∨ ¬ p2 < gw) : Met l yX6_cell [Cond.code yX6_cell cX6_cell 3 (some .int)] ({ frames := 1, cells := 0, slots := 0, locals := 40 } : Room) (xPM s0 (dC, dI) [.ref mo, .int p1, .int p2] [] [(mo, .inr (6, [.int th, .ref mr, .ref ml, .int wr, .int gm, .int gh, .int gw, .int bm, .int bd, .int bc, .int ca, .ref ms, .ref mv]))] sz) (xQM (dC, dI) (va_A [(mo, .inr (6, [.int th, .ref mr, .ref ml, .int wr, .int gm, .int gh, .int gw, .int bm, .int bd, .int bc, .int ca, .ref ms, .ref mv]))] sz) (fun r w1 => r = some (.int 0) ∧ w1 = [(mo, .inr (6, [.int 2, .ref mr, .ref ml, .int wr, .int gm, .int gh, .int gw, .int bm, .int bd, .int bc, .int ca, .ref ms, .ref mv]))])) 0 0 (va_A [(mo, .inr (6, [.int th, .ref mr, .ref ml, .int wr, .int gm, .int gh, .int gw, .int bm, .int bd, .int bc, .int ca, .ref ms, .ref mv]))] sz) := by
  refine Met.ofW (cc := cX6_cell) (maxL := 3) (ret := (some .int)) (by decide) rfl ?_
  intro p e s m args below meth c s₁ B hml hv
  obtain ⟨rfl, rfl, hb0, hPr, hP, hD0⟩ := hv
  have hx := B.exec
  have hb := B.bytes
  have hr := B.returns
  have hown : s.vm.findClass RX6 = some m.cls := findClass_of_methodNamed B.named
  have hlocks := B.notSynchronized
  have hK := h.K hb0
  have hS : va_S (va_A [(mo, .inr (6, [.int th, .ref mr, .ref ml, .int wr, .int gm, .int gh, .int gw, .int bm, .int bd, .int bc, .int ca, .ref ms, .ref mv]))] s.heap.size) s.heap s.heap [] := va_S.rf
  obtain ⟨A, hAe, hD, hA, hz, hRo, hwk, hnR⟩ := xM_start hb0 hPr hP hD0
  rw [hAe] at hS ⊢
  have hl := lv_entry ([.ref mo, .int p1, .int p2]) (n := 3) (Nat.le_of_ble_eq_true rfl)
  rw [lg_entry_eq]
  generalize (lg_sl ([.ref mo, .int p1, .int p2]) ++ List.replicate (3 - (lg_sl ([.ref mo, .int p1, .int p2])).length) Slot.unset).toArray = ls at hl ⊢
  have hl : lv_has ls 3 [(0, .ref mo), (1, .int p1), (2, .int p2)] := hl
  refine lv_aload_n hx hb dX6_cell_0 rfl (lv_at hl 0 rfl) ?_
  refine lv_iconst (v := 0) hx hb dX6_cell_1 (by decide) ?_
  refine va_put (D := (dC, dI)) (ci := 6) (v := .int 0) (ty := .int) (C := RX6) (T := TX6) (N := 13) hx hb (ly_6 h hb0) (fun _ z => z) tyX6 tyX6_ok nmX6 hown hK hP hD hS 0 rfl rfl 0 (by decide) (k_531 h hb0) (fun _ z => z) rfl (by decide +kernel) rfl rfl (Nat.le_of_ble_eq_true rfl) dX6_cell_2 (fun H locs hP hD hS => ?_)
  have hP : va_P (dC, dI) vwCl [(mo, .inr (6, [.int 0, .ref mr, .ref ml, .int wr, .int gm, .int gh, .int gw, .int bm, .int bd, .int bc, .int ca, .ref ms, .ref mv]))] H := hP
  have hD : va_D A [(mo, .inr (6, [.int 0, .ref mr, .ref ml, .int wr, .int gm, .int gh, .int gw, .int bm, .int bd, .int bc, .int ca, .ref ms, .ref mv]))] := hD
  refine lv_aload_n hx hb dX6_cell_5 rfl (lv_at hl 0 rfl) ?_
  refine va_get (D := (dC, dI)) (ci := 6) (v := .int gm) (C := RX6) (T := TX6) (N := 13) hx hb (ly_6 h hb0) (fun _ z => z) hown hK hP 0 rfl rfl 4 (by decide) (k_535 h hb0) (fun _ z => z) rfl dX6_cell_6 ?_
  refine lv_if_ne (tgt := 18) hx hb dX6_cell_9 (by decide) (fun c_1 => ?_) (fun c_1 => ?_)
  · refine lv_iload_n hx hb dX6_cell_18 rfl (lv_at hl 1 rfl) ?_
    refine lv_if_lt (tgt := 42) hx hb dX6_cell_19 (by decide) (fun c_2 => ?_) (fun c_2 => ?_)
    · exact absurd c_2 h0
    · refine lv_iload_n hx hb dX6_cell_22 rfl (lv_at hl 1 rfl) ?_
      refine lv_aload_n hx hb dX6_cell_23 rfl (lv_at hl 0 rfl) ?_
      refine va_get (D := (dC, dI)) (ci := 6) (v := .int gh) (C := RX6) (T := TX6) (N := 13) hx hb (ly_6 h hb0) (fun _ z => z) hown hK hP 0 rfl rfl 5 (by decide) (k_536 h hb0) (fun _ z => z) rfl dX6_cell_24 ?_
      refine lv_icmp_ge (tgt := 42) hx hb dX6_cell_27 (by decide) (fun c_3 => ?_) (fun c_3 => ?_)
      · exact absurd h1 (Int32.not_lt.mpr c_3)
      · refine lv_iload_n hx hb dX6_cell_30 rfl (lv_at hl 2 rfl) ?_
        refine lv_if_lt (tgt := 42) hx hb dX6_cell_31 (by decide) (fun c_4 => ?_) (fun c_4 => ?_)
        · refine lv_aload_n hx hb dX6_cell_42 rfl (lv_at hl 0 rfl) ?_
          refine lv_iconst (v := 2) hx hb dX6_cell_43 (by decide) ?_
          refine xm_of (wc := [(mo, .inr (6, [.int 0, .ref mr, .ref ml, .int wr, .int gm, .int gh, .int gw, .int bm, .int bd, .int bc, .int ca, .ref ms, .ref mv]))]) (wo := []) (va_runV (As := [.int 2]) (rest := []) ⟨hx, hb, hml, hown, xTs⟩ (c_fails h mo mr ml ms mv 0 wr gm gh gw bm bd bc ca 2 _) ⟨xB (n := 1) (k_582 h hb0) (k_5 h hb0) (k_579 h hb0) (by decide) rfl rfl rfl (by decide) (by decide), (k_581 h hb0), (ks_3 h hb0)⟩ (xpMV (wr := []) (wc := [(mo, .inr (6, [.int 0, .ref mr, .ref ml, .int wr, .int gm, .int gh, .int gw, .int bm, .int bd, .int bc, .int ca, .ref ms, .ref mv]))]) hb0 hS hz (va_P.sub hP [] rfl) (va_P.sub hP [0] rfl) (va_D.sub (hwk _ hD) [0] rfl rfl) (va_recv hK hP (ci := 6) (q0 := 0) rfl rfl)) rfl rfl hl.1 rfl (lv_room (Nat.le_of_ble_eq_true rfl)) dX6_cell_44 ⟨(Nat.le_of_ble_eq_true rfl), (Nat.le_of_ble_eq_true rfl)⟩) hP hD hS hA [0] [] rfl rfl rfl (by decide) (fun r w1 H locs hΦ hP hD hS => ?_)
          obtain ⟨rfl, rfl⟩ := hΦ
          have hP : va_P (dC, dI) vwCl [(mo, .inr (6, [.int 2, .ref mr, .ref ml, .int wr, .int gm, .int gh, .int gw, .int bm, .int bd, .int bc, .int ca, .ref ms, .ref mv]))] H := hP
          have hD : va_D A [(mo, .inr (6, [.int 2, .ref mr, .ref ml, .int wr, .int gm, .int gh, .int gw, .int bm, .int bd, .int bc, .int ca, .ref ms, .ref mv]))] := hD
          exact W.iret hx hb hr (fun t ht _ => ⟨(some (.int 0)), _, rfl, ⟨rfl, rfl⟩, by rw [ht]; exact hP, hD, hS.F ht⟩) (fun q z => hS.2.2 q z) dX6_cell_47
        · refine lv_iload_n hx hb dX6_cell_34 rfl (lv_at hl 2 rfl) ?_
          refine lv_aload_n hx hb dX6_cell_35 rfl (lv_at hl 0 rfl) ?_
          refine va_get (D := (dC, dI)) (ci := 6) (v := .int gw) (C := RX6) (T := TX6) (N := 13) hx hb (ly_6 h hb0) (fun _ z => z) hown hK hP 0 rfl rfl 6 (by decide) (k_537 h hb0) (fun _ z => z) rfl dX6_cell_36 ?_
          refine lv_icmp_lt (tgt := 48) hx hb dX6_cell_39 (by decide) (fun c_5 => ?_) (fun c_5 => ?_)
          · exact absurd hc (fun z => z.elim c_4 (fun y => y c_5))
          · refine lv_aload_n hx hb dX6_cell_42 rfl (lv_at hl 0 rfl) ?_
            refine lv_iconst (v := 2) hx hb dX6_cell_43 (by decide) ?_
            refine xm_of (wc := [(mo, .inr (6, [.int 0, .ref mr, .ref ml, .int wr, .int gm, .int gh, .int gw, .int bm, .int bd, .int bc, .int ca, .ref ms, .ref mv]))]) (wo := []) (va_runV (As := [.int 2]) (rest := []) ⟨hx, hb, hml, hown, xTs⟩ (c_fails h mo mr ml ms mv 0 wr gm gh gw bm bd bc ca 2 _) ⟨xB (n := 1) (k_582 h hb0) (k_5 h hb0) (k_579 h hb0) (by decide) rfl rfl rfl (by decide) (by decide), (k_581 h hb0), (ks_3 h hb0)⟩ (xpMV (wr := []) (wc := [(mo, .inr (6, [.int 0, .ref mr, .ref ml, .int wr, .int gm, .int gh, .int gw, .int bm, .int bd, .int bc, .int ca, .ref ms, .ref mv]))]) hb0 hS hz (va_P.sub hP [] rfl) (va_P.sub hP [0] rfl) (va_D.sub (hwk _ hD) [0] rfl rfl) (va_recv hK hP (ci := 6) (q0 := 0) rfl rfl)) rfl rfl hl.1 rfl (lv_room (Nat.le_of_ble_eq_true rfl)) dX6_cell_44 ⟨(Nat.le_of_ble_eq_true rfl), (Nat.le_of_ble_eq_true rfl)⟩) hP hD hS hA [0] [] rfl rfl rfl (by decide) (fun r w1 H locs hΦ hP hD hS => ?_)
            obtain ⟨rfl, rfl⟩ := hΦ
            have hP : va_P (dC, dI) vwCl [(mo, .inr (6, [.int 2, .ref mr, .ref ml, .int wr, .int gm, .int gh, .int gw, .int bm, .int bd, .int bc, .int ca, .ref ms, .ref mv]))] H := hP
            have hD : va_D A [(mo, .inr (6, [.int 2, .ref mr, .ref ml, .int wr, .int gm, .int gh, .int gw, .int bm, .int bd, .int bc, .int ca, .ref ms, .ref mv]))] := hD
            exact W.iret hx hb hr (fun t ht _ => ⟨(some (.int 0)), _, rfl, ⟨rfl, rfl⟩, by rw [ht]; exact hP, hD, hS.F ht⟩) (fun q z => hS.2.2 q z) dX6_cell_47
  · exact absurd c_1 ht
set_option maxHeartbeats 4000000 in
set_option maxRecDepth 100000 in
theorem m_boxes_c {l : Launch} {s0 : State} {a0 : Array Value} {dC : Nat → ClassId} {dI : Nat → Nat → Nat} {cA : Nat → ClassId} (h : xC l s0 a0 dC dI cA) (mo mr ml ms mv : Nat) (th wr gm gh gw bm bd bc ca : Int32) (so : Nat → Int32) (N : Nat) (p1 p2 : Int32) (sz : Nat) (hN : p1 - p1 / 20 * 20 = nI N) (hN4 : N < 20) (h01 : p2 = 0 ∨ p2 = 1) : Met l yX6_boxes [Cond.code yX6_boxes cX6_boxes 5 (some .int)] ({ frames := 1, cells := 0, slots := 0, locals := 40 } : Room) (xPM s0 (dC, dI) [.ref mo, .int p1, .int p2] [] [(mo, .inr (6, [.int th, .ref mr, .ref ml, .int wr, .int gm, .int gh, .int gw, .int bm, .int bd, .int bc, .int ca, .ref ms, .ref mv])), (ms, .inl (cA 0, 20, .inl so))] sz) (xQM (dC, dI) (va_A [(mo, .inr (6, [.int th, .ref mr, .ref ml, .int wr, .int gm, .int gh, .int gw, .int bm, .int bd, .int bc, .int ca, .ref ms, .ref mv])), (ms, .inl (cA 0, 20, .inl so))] sz) (fun r w1 => r = some (.int (nI N)) ∧ w1 = [(mo, .inr (6, [.int 0, .ref mr, .ref ml, .int wr, .int gm, .int gh, .int gw, .int 1, .int p2, .int (nI N), .int ca, .ref ms, .ref mv])), (ms, .inl (cA 0, 20, .inl (iz so 20)))])) 0 0 (va_A [(mo, .inr (6, [.int th, .ref mr, .ref ml, .int wr, .int gm, .int gh, .int gw, .int bm, .int bd, .int bc, .int ca, .ref ms, .ref mv])), (ms, .inl (cA 0, 20, .inl so))] sz) := by
  refine Met.ofW (cc := cX6_boxes) (maxL := 5) (ret := (some .int)) (by decide) rfl ?_
  intro p e s m args below meth c s₁ B hml hv
  obtain ⟨rfl, rfl, hb0, hPr, hP, hD0⟩ := hv
  have hx := B.exec
  have hb := B.bytes
  have hr := B.returns
  have hown : s.vm.findClass RX6 = some m.cls := findClass_of_methodNamed B.named
  have hlocks := B.notSynchronized
  have hK := h.K hb0
  have hS : va_S (va_A [(mo, .inr (6, [.int th, .ref mr, .ref ml, .int wr, .int gm, .int gh, .int gw, .int bm, .int bd, .int bc, .int ca, .ref ms, .ref mv])), (ms, .inl (cA 0, 20, .inl so))] s.heap.size) s.heap s.heap [] := va_S.rf
  obtain ⟨A, hAe, hD, hA, hz, hRo, hwk, hnR⟩ := xM_start hb0 hPr hP hD0
  rw [hAe] at hS ⊢
  have hl := lv_entry ([.ref mo, .int p1, .int p2]) (n := 5) (Nat.le_of_ble_eq_true rfl)
  rw [lg_entry_eq]
  generalize (lg_sl ([.ref mo, .int p1, .int p2]) ++ List.replicate (5 - (lg_sl ([.ref mo, .int p1, .int p2])).length) Slot.unset).toArray = ls at hl ⊢
  have hl : lv_has ls 5 [(0, .ref mo), (1, .int p1), (2, .int p2)] := hl
  refine lv_aload_n hx hb dX6_boxes_0 rfl (lv_at hl 0 rfl) ?_
  refine lv_iconst (v := 0) hx hb dX6_boxes_1 (by decide) ?_
  refine va_put (D := (dC, dI)) (ci := 6) (v := .int 0) (ty := .int) (C := RX6) (T := TX6) (N := 13) hx hb (ly_6 h hb0) (fun _ z => z) tyX6 tyX6_ok nmX6 hown hK hP hD hS 0 rfl rfl 0 (by decide) (k_531 h hb0) (fun _ z => z) rfl (by decide +kernel) rfl rfl (Nat.le_of_ble_eq_true rfl) dX6_boxes_2 (fun H locs hP hD hS => ?_)
  have hP : va_P (dC, dI) vwCl [(mo, .inr (6, [.int 0, .ref mr, .ref ml, .int wr, .int gm, .int gh, .int gw, .int bm, .int bd, .int bc, .int ca, .ref ms, .ref mv])), (ms, .inl (cA 0, 20, .inl so))] H := hP
  have hD : va_D A [(mo, .inr (6, [.int 0, .ref mr, .ref ml, .int wr, .int gm, .int gh, .int gw, .int bm, .int bd, .int bc, .int ca, .ref ms, .ref mv])), (ms, .inl (cA 0, 20, .inl so))] := hD
  refine lv_iload_n hx hb dX6_boxes_5 rfl (lv_at hl 1 rfl) ?_
  refine lv_bipush (v := 20) hx hb dX6_boxes_6 (by decide) ?_
  refine lv_irem hx hb dX6_boxes_8 (by decide) ?_
  rw [hN]
  refine lv_istore_n (lv' := [(3, .int (nI N)), (0, .ref mo), (1, .int p1), (2, .int p2)]) hx hb dX6_boxes_9 rfl hl (by decide) rfl (fun ls hl => ?_)
  refine lv_iload_n hx hb dX6_boxes_10 rfl (lv_at hl 0 rfl) ?_
  refine lv_if_ge (tgt := 20) hx hb dX6_boxes_11 (by decide) (fun c_1 => ?_) (fun c_1 => ?_)
  · refine lv_aload_n hx hb dX6_boxes_20 rfl (lv_at hl 1 rfl) ?_
    refine lv_iconst (v := 1) hx hb dX6_boxes_21 (by decide) ?_
    refine va_put (D := (dC, dI)) (ci := 6) (v := .int 1) (ty := .boolean) (C := RX6) (T := TX6) (N := 13) hx hb (ly_6 h hb0) (fun _ z => z) tyX6 tyX6_ok nmX6 hown hK hP hD hS 0 rfl rfl 7 (by decide) (k_538 h hb0) (fun _ z => z) rfl (by decide +kernel) rfl rfl (Nat.le_of_ble_eq_true rfl) dX6_boxes_22 (fun H locs hP hD hS => ?_)
    have hP : va_P (dC, dI) vwCl [(mo, .inr (6, [.int 0, .ref mr, .ref ml, .int wr, .int gm, .int gh, .int gw, .int 1, .int bd, .int bc, .int ca, .ref ms, .ref mv])), (ms, .inl (cA 0, 20, .inl so))] H := hP
    have hD : va_D A [(mo, .inr (6, [.int 0, .ref mr, .ref ml, .int wr, .int gm, .int gh, .int gw, .int 1, .int bd, .int bc, .int ca, .ref ms, .ref mv])), (ms, .inl (cA 0, 20, .inl so))] := hD
    refine lv_aload_n hx hb dX6_boxes_25 rfl (lv_at hl 1 rfl) ?_
    refine lv_iload_n hx hb dX6_boxes_26 rfl (lv_at hl 3 rfl) ?_
    refine va_put (D := (dC, dI)) (ci := 6) (v := .int p2) (ty := .boolean) (C := RX6) (T := TX6) (N := 13) hx hb (ly_6 h hb0) (fun _ z => z) tyX6 tyX6_ok nmX6 hown hK hP hD hS 0 rfl rfl 8 (by decide) (k_539 h hb0) (fun _ z => z) rfl (by decide +kernel) (xz01 h01) (xf01 h01) (Nat.le_of_ble_eq_true rfl) dX6_boxes_27 (fun H locs hP hD hS => ?_)
    have hP : va_P (dC, dI) vwCl [(mo, .inr (6, [.int 0, .ref mr, .ref ml, .int wr, .int gm, .int gh, .int gw, .int 1, .int p2, .int bc, .int ca, .ref ms, .ref mv])), (ms, .inl (cA 0, 20, .inl so))] H := hP
    have hD : va_D A [(mo, .inr (6, [.int 0, .ref mr, .ref ml, .int wr, .int gm, .int gh, .int gw, .int 1, .int p2, .int bc, .int ca, .ref ms, .ref mv])), (ms, .inl (cA 0, 20, .inl so))] := hD
    refine lv_aload_n hx hb dX6_boxes_30 rfl (lv_at hl 1 rfl) ?_
    refine lv_iload_n hx hb dX6_boxes_31 rfl (lv_at hl 0 rfl) ?_
    refine va_put (D := (dC, dI)) (ci := 6) (v := .int (nI N)) (ty := .int) (C := RX6) (T := TX6) (N := 13) hx hb (ly_6 h hb0) (fun _ z => z) tyX6 tyX6_ok nmX6 hown hK hP hD hS 0 rfl rfl 9 (by decide) (k_540 h hb0) (fun _ z => z) rfl (by decide +kernel) rfl rfl (Nat.le_of_ble_eq_true rfl) dX6_boxes_32 (fun H locs hP hD hS => ?_)
    have hP : va_P (dC, dI) vwCl [(mo, .inr (6, [.int 0, .ref mr, .ref ml, .int wr, .int gm, .int gh, .int gw, .int 1, .int p2, .int (nI N), .int ca, .ref ms, .ref mv])), (ms, .inl (cA 0, 20, .inl so))] H := hP
    have hD : va_D A [(mo, .inr (6, [.int 0, .ref mr, .ref ml, .int wr, .int gm, .int gh, .int gw, .int 1, .int p2, .int (nI N), .int ca, .ref ms, .ref mv])), (ms, .inl (cA 0, 20, .inl so))] := hD
    refine lv_iconst (v := 0) hx hb dX6_boxes_35 (by decide) ?_
    refine lv_istore (lv' := [(4, .int 0), (3, .int (nI N)), (0, .ref mo), (1, .int p1), (2, .int p2)]) hx hb dX6_boxes_36 hl (by decide) rfl (fun ls hl => ?_)
    refine xloop (σ := Array Slot × Heap × List Loc) (fun i z => lv_has z.1 5 [(4, .int (nI i)), (3, .int (nI N)), (0, .ref mo), (1, .int p1), (2, .int p2)] ∧ va_P (dC, dI) vwCl [(mo, .inr (6, [.int 0, .ref mr, .ref ml, .int wr, .int gm, .int gh, .int gw, .int 1, .int p2, .int (nI N), .int ca, .ref ms, .ref mv])), (ms, .inl (cA 0, 20, .inl (iz so i)))] z.2.1 ∧ va_D A [(mo, .inr (6, [.int 0, .ref mr, .ref ml, .int wr, .int gm, .int gh, .int gw, .int 1, .int p2, .int (nI N), .int ca, .ref ms, .ref mv])), (ms, .inl (cA 0, 20, .inl (iz so i)))] ∧ va_S A s.heap z.2.1 z.2.2) (fun z => W p l e _ s m _ below meth c z.2.1 z.2.2 _ _ _ (F0 m 38 z.1 [])) 20 ?_ ?_ (ls, _, _) ⟨hl, by rw [iz_0]; exact hP, by rw [iz_0]; exact hD, hS⟩
    · rintro i ⟨ls, H, locs⟩ hi ⟨hl, hP, hD, hS⟩ ih
      have hl : lv_has ls 5 [(4, .int (nI i)), (3, .int (nI N)), (0, .ref mo), (1, .int p1), (2, .int p2)] := hl
      have hP : va_P (dC, dI) vwCl [(mo, .inr (6, [.int 0, .ref mr, .ref ml, .int wr, .int gm, .int gh, .int gw, .int 1, .int p2, .int (nI N), .int ca, .ref ms, .ref mv])), (ms, .inl (cA 0, 20, .inl (iz so i)))] H := hP
      have hD : va_D A [(mo, .inr (6, [.int 0, .ref mr, .ref ml, .int wr, .int gm, .int gh, .int gw, .int 1, .int p2, .int (nI N), .int ca, .ref ms, .ref mv])), (ms, .inl (cA 0, 20, .inl (iz so i)))] := hD
      have hS : va_S A s.heap H locs := hS
      show W p l e _ s m _ below meth c H locs _ _ _ (F0 m 38 ls [])
      refine lv_iload hx hb dX6_boxes_38 (lv_at hl 0 rfl) ?_
      refine lv_bipush (v := 20) hx hb dX6_boxes_40 (by decide) ?_
      refine lv_icmp_ge (tgt := 59) hx hb dX6_boxes_42 (by decide) (fun c_2 => ?_) (fun c_2 => ?_)
      · exact absurd c_2 (nI_ge hi (by decide))
      · refine lv_aload_n hx hb dX6_boxes_45 rfl (lv_at hl 2 rfl) ?_
        refine va_get (D := (dC, dI)) (ci := 6) (v := .ref ms) (C := RX6) (T := TX6) (N := 13) hx hb (ly_6 h hb0) (fun _ z => z) hown hK hP 0 rfl rfl 11 (by decide) (k_542 h hb0) (fun _ z => z) rfl dX6_boxes_46 ?_
        refine lv_iload hx hb dX6_boxes_49 (lv_at hl 0 rfl) ?_
        refine lv_iconst (v := 0) hx hb dX6_boxes_51 (by decide) ?_
        refine va_iast hx hb hK hP hD hS 1 0 rfl rfl (vp_in_nI hi (by decide)) dX6_boxes_52 (fun H locs hP hD hS => ?_)
        have hP : va_P (dC, dI) vwCl [(mo, .inr (6, [.int 0, .ref mr, .ref ml, .int wr, .int gm, .int gh, .int gw, .int 1, .int p2, .int (nI N), .int ca, .ref ms, .ref mv])), (ms, .inl (cA 0, 20, .inl (upd (iz so i) (nI i).toNatClampNeg 0)))] H := hP
        have hD : va_D A [(mo, .inr (6, [.int 0, .ref mr, .ref ml, .int wr, .int gm, .int gh, .int gw, .int 1, .int p2, .int (nI N), .int ca, .ref ms, .ref mv])), (ms, .inl (cA 0, 20, .inl (upd (iz so i) (nI i).toNatClampNeg 0)))] := hD
        refine lv_iinc (lv' := [(4, .int (nI (i + 1))), (3, .int (nI N)), (0, .ref mo), (1, .int p1), (2, .int p2)]) hx hb dX6_boxes_53 hl (k := 0) rfl (nI_1 _) (by decide) rfl (fun ls hl => ?_)
        refine lv_goto (tgt := 38) hx hb dX6_boxes_56 (by decide) ?_
        rw [nI_clamp (by omega), iz_s] at hP hD
        exact ih (ls, _, _) ⟨hl, hP, hD, hS⟩
    · rintro ⟨ls, H, locs⟩ ⟨hl, hP, hD, hS⟩
      have hl : lv_has ls 5 [(4, .int (nI 20)), (3, .int (nI N)), (0, .ref mo), (1, .int p1), (2, .int p2)] := hl
      have hP : va_P (dC, dI) vwCl [(mo, .inr (6, [.int 0, .ref mr, .ref ml, .int wr, .int gm, .int gh, .int gw, .int 1, .int p2, .int (nI N), .int ca, .ref ms, .ref mv])), (ms, .inl (cA 0, 20, .inl (iz so 20)))] H := hP
      have hD : va_D A [(mo, .inr (6, [.int 0, .ref mr, .ref ml, .int wr, .int gm, .int gh, .int gw, .int 1, .int p2, .int (nI N), .int ca, .ref ms, .ref mv])), (ms, .inl (cA 0, 20, .inl (iz so 20)))] := hD
      have hS : va_S A s.heap H locs := hS
      show W p l e _ s m _ below meth c H locs _ _ _ (F0 m 38 ls [])
      refine lv_iload hx hb dX6_boxes_38 (lv_at hl 0 rfl) ?_
      refine lv_bipush (v := 20) hx hb dX6_boxes_40 (by decide) ?_
      refine lv_icmp_ge (tgt := 59) hx hb dX6_boxes_42 (by decide) (fun c_3 => ?_) (fun c_3 => ?_)
      · refine lv_iload_n hx hb dX6_boxes_59 rfl (lv_at hl 1 rfl) ?_
        exact W.iret hx hb hr (fun t ht _ => ⟨(some (.int (nI N))), _, rfl, ⟨rfl, rfl⟩, by rw [ht]; exact hP, hD, hS.F ht⟩) (fun q z => hS.2.2 q z) dX6_boxes_60
      · exact absurd (by decide) c_3
  · exact absurd (nI_pos' (by omega)) c_1
set_option maxHeartbeats 4000000 in
set_option maxRecDepth 100000 in
theorem m_boxes_S {l : Launch} {s0 : State} {a0 : Array Value} {dC : Nat → ClassId} {dI : Nat → Nat → Nat} {cA : Nat → ClassId} (h : xC l s0 a0 dC dI cA) (mo mr ml ms mv : Nat) (th wr gm gh gw bm bd bc ca : Int32) (p1 p2 : Int32) (sz : Nat) (hc : p1 - p1 / 20 * 20 < 0) : Met l yX6_boxes [Cond.code yX6_boxes cX6_boxes 5 (some .int)] ({ frames := 1, cells := 0, slots := 0, locals := 40 } : Room) (xPM s0 (dC, dI) [.ref mo, .int p1, .int p2] [] [(mo, .inr (6, [.int th, .ref mr, .ref ml, .int wr, .int gm, .int gh, .int gw, .int bm, .int bd, .int bc, .int ca, .ref ms, .ref mv]))] sz) (xQM (dC, dI) (va_A [(mo, .inr (6, [.int th, .ref mr, .ref ml, .int wr, .int gm, .int gh, .int gw, .int bm, .int bd, .int bc, .int ca, .ref ms, .ref mv]))] sz) (fun r w1 => r = some (.int 0) ∧ w1 = [(mo, .inr (6, [.int 1, .ref mr, .ref ml, .int wr, .int gm, .int gh, .int gw, .int bm, .int bd, .int bc, .int ca, .ref ms, .ref mv]))])) 0 0 (va_A [(mo, .inr (6, [.int th, .ref mr, .ref ml, .int wr, .int gm, .int gh, .int gw, .int bm, .int bd, .int bc, .int ca, .ref ms, .ref mv]))] sz) := by
  refine Met.ofW (cc := cX6_boxes) (maxL := 5) (ret := (some .int)) (by decide) rfl ?_
  intro p e s m args below meth c s₁ B hml hv
  obtain ⟨rfl, rfl, hb0, hPr, hP, hD0⟩ := hv
  have hx := B.exec
  have hb := B.bytes
  have hr := B.returns
  have hown : s.vm.findClass RX6 = some m.cls := findClass_of_methodNamed B.named
  have hlocks := B.notSynchronized
  have hK := h.K hb0
  have hS : va_S (va_A [(mo, .inr (6, [.int th, .ref mr, .ref ml, .int wr, .int gm, .int gh, .int gw, .int bm, .int bd, .int bc, .int ca, .ref ms, .ref mv]))] s.heap.size) s.heap s.heap [] := va_S.rf
  obtain ⟨A, hAe, hD, hA, hz, hRo, hwk, hnR⟩ := xM_start hb0 hPr hP hD0
  rw [hAe] at hS ⊢
  have hl := lv_entry ([.ref mo, .int p1, .int p2]) (n := 5) (Nat.le_of_ble_eq_true rfl)
  rw [lg_entry_eq]
  generalize (lg_sl ([.ref mo, .int p1, .int p2]) ++ List.replicate (5 - (lg_sl ([.ref mo, .int p1, .int p2])).length) Slot.unset).toArray = ls at hl ⊢
  have hl : lv_has ls 5 [(0, .ref mo), (1, .int p1), (2, .int p2)] := hl
  refine lv_aload_n hx hb dX6_boxes_0 rfl (lv_at hl 0 rfl) ?_
  refine lv_iconst (v := 0) hx hb dX6_boxes_1 (by decide) ?_
  refine va_put (D := (dC, dI)) (ci := 6) (v := .int 0) (ty := .int) (C := RX6) (T := TX6) (N := 13) hx hb (ly_6 h hb0) (fun _ z => z) tyX6 tyX6_ok nmX6 hown hK hP hD hS 0 rfl rfl 0 (by decide) (k_531 h hb0) (fun _ z => z) rfl (by decide +kernel) rfl rfl (Nat.le_of_ble_eq_true rfl) dX6_boxes_2 (fun H locs hP hD hS => ?_)
  have hP : va_P (dC, dI) vwCl [(mo, .inr (6, [.int 0, .ref mr, .ref ml, .int wr, .int gm, .int gh, .int gw, .int bm, .int bd, .int bc, .int ca, .ref ms, .ref mv]))] H := hP
  have hD : va_D A [(mo, .inr (6, [.int 0, .ref mr, .ref ml, .int wr, .int gm, .int gh, .int gw, .int bm, .int bd, .int bc, .int ca, .ref ms, .ref mv]))] := hD
  refine lv_iload_n hx hb dX6_boxes_5 rfl (lv_at hl 1 rfl) ?_
  refine lv_bipush (v := 20) hx hb dX6_boxes_6 (by decide) ?_
  refine lv_irem hx hb dX6_boxes_8 (by decide) ?_
  refine lv_istore_n (lv' := [(3, .int (p1 - p1 / 20 * 20)), (0, .ref mo), (1, .int p1), (2, .int p2)]) hx hb dX6_boxes_9 rfl hl (by decide) rfl (fun ls hl => ?_)
  refine lv_iload_n hx hb dX6_boxes_10 rfl (lv_at hl 0 rfl) ?_
  refine lv_if_ge (tgt := 20) hx hb dX6_boxes_11 (by decide) (fun c_1 => ?_) (fun c_1 => ?_)
  · exact absurd hc (Int32.not_lt.mpr c_1)
  · refine lv_aload_n hx hb dX6_boxes_14 rfl (lv_at hl 1 rfl) ?_
    refine lv_iconst (v := 1) hx hb dX6_boxes_15 (by decide) ?_
    refine xm_of (wc := [(mo, .inr (6, [.int 0, .ref mr, .ref ml, .int wr, .int gm, .int gh, .int gw, .int bm, .int bd, .int bc, .int ca, .ref ms, .ref mv]))]) (wo := []) (va_runV (As := [.int 1]) (rest := []) ⟨hx, hb, hml, hown, xTs⟩ (c_fails h mo mr ml ms mv 0 wr gm gh gw bm bd bc ca 1 _) ⟨xB (n := 1) (k_582 h hb0) (k_5 h hb0) (k_579 h hb0) (by decide) rfl rfl rfl (by decide) (by decide), (k_581 h hb0), (ks_3 h hb0)⟩ (xpMV (wr := []) (wc := [(mo, .inr (6, [.int 0, .ref mr, .ref ml, .int wr, .int gm, .int gh, .int gw, .int bm, .int bd, .int bc, .int ca, .ref ms, .ref mv]))]) hb0 hS hz (va_P.sub hP [] rfl) (va_P.sub hP [0] rfl) (va_D.sub (hwk _ hD) [0] rfl rfl) (va_recv hK hP (ci := 6) (q0 := 0) rfl rfl)) rfl rfl hl.1 rfl (lv_room (Nat.le_of_ble_eq_true rfl)) dX6_boxes_16 ⟨(Nat.le_of_ble_eq_true rfl), (Nat.le_of_ble_eq_true rfl)⟩) hP hD hS hA [0] [] rfl rfl rfl (by decide) (fun r w1 H locs hΦ hP hD hS => ?_)
    obtain ⟨rfl, rfl⟩ := hΦ
    have hP : va_P (dC, dI) vwCl [(mo, .inr (6, [.int 1, .ref mr, .ref ml, .int wr, .int gm, .int gh, .int gw, .int bm, .int bd, .int bc, .int ca, .ref ms, .ref mv]))] H := hP
    have hD : va_D A [(mo, .inr (6, [.int 1, .ref mr, .ref ml, .int wr, .int gm, .int gh, .int gw, .int bm, .int bd, .int bc, .int ca, .ref ms, .ref mv]))] := hD
    exact W.iret hx hb hr (fun t ht _ => ⟨(some (.int 0)), _, rfl, ⟨rfl, rfl⟩, by rw [ht]; exact hP, hD, hS.F ht⟩) (fun q z => hS.2.2 q z) dX6_boxes_19
set_option maxHeartbeats 4000000 in
set_option maxRecDepth 100000 in
theorem m_put_n {l : Launch} {s0 : State} {a0 : Array Value} {dC : Nat → ClassId} {dI : Nat → Nat → Nat} {cA : Nat → ClassId} (h : xC l s0 a0 dC dI cA) (mo mr ml ms mv : Nat) (th wr gm gh gw bm bd bc ca : Int32) (so : Nat → Int32) (va : Nat → Int32) (p1 p2 p3 p4 : Int32) (sz : Nat) (ht : ¬ bm = 0) (hp : ¬ p1 = 0) (h0 : ¬ p2 < 0) (h1 : p2 < bc) (hi : vp_in p2 20) (hw : p3 &&& 3 = 0) : Met l yX6_put [Cond.code yX6_put cX6_put 6 (some .int)] ({ frames := 1, cells := 0, slots := 0, locals := 40 } : Room) (xPM s0 (dC, dI) [.ref mo, .int p1, .int p2, .int p3, .int p4] [] [(mo, .inr (6, [.int th, .ref mr, .ref ml, .int wr, .int gm, .int gh, .int gw, .int bm, .int bd, .int bc, .int ca, .ref ms, .ref mv])), (ms, .inl (cA 0, 20, .inl so)), (mv, .inl (cA 0, 20, .inl va))] sz) (xQM (dC, dI) (va_A [(mo, .inr (6, [.int th, .ref mr, .ref ml, .int wr, .int gm, .int gh, .int gw, .int bm, .int bd, .int bc, .int ca, .ref ms, .ref mv])), (ms, .inl (cA 0, 20, .inl so)), (mv, .inl (cA 0, 20, .inl va))] sz) (fun r w1 => r = some (.int (ca + 1)) ∧ w1 = [(mo, .inr (6, [.int 0, .ref mr, .ref ml, .int wr, .int gm, .int gh, .int gw, .int bm, .int bd, .int bc, .int (ca + 1), .ref ms, .ref mv])), (ms, .inl (cA 0, 20, .inl (upd so p2.toNatClampNeg 0))), (mv, .inl (cA 0, 20, .inl (upd va p2.toNatClampNeg p4)))])) 0 0 (va_A [(mo, .inr (6, [.int th, .ref mr, .ref ml, .int wr, .int gm, .int gh, .int gw, .int bm, .int bd, .int bc, .int ca, .ref ms, .ref mv])), (ms, .inl (cA 0, 20, .inl so)), (mv, .inl (cA 0, 20, .inl va))] sz) := by
  refine Met.ofW (cc := cX6_put) (maxL := 6) (ret := (some .int)) (by decide) rfl ?_
  intro p e s m args below meth c s₁ B hml hv
  obtain ⟨rfl, rfl, hb0, hPr, hP, hD0⟩ := hv
  have hx := B.exec
  have hb := B.bytes
  have hr := B.returns
  have hown : s.vm.findClass RX6 = some m.cls := findClass_of_methodNamed B.named
  have hlocks := B.notSynchronized
  have hK := h.K hb0
  have hS : va_S (va_A [(mo, .inr (6, [.int th, .ref mr, .ref ml, .int wr, .int gm, .int gh, .int gw, .int bm, .int bd, .int bc, .int ca, .ref ms, .ref mv])), (ms, .inl (cA 0, 20, .inl so)), (mv, .inl (cA 0, 20, .inl va))] s.heap.size) s.heap s.heap [] := va_S.rf
  obtain ⟨A, hAe, hD, hA, hz, hRo, hwk, hnR⟩ := xM_start hb0 hPr hP hD0
  rw [hAe] at hS ⊢
  have hl := lv_entry ([.ref mo, .int p1, .int p2, .int p3, .int p4]) (n := 6) (Nat.le_of_ble_eq_true rfl)
  rw [lg_entry_eq]
  generalize (lg_sl ([.ref mo, .int p1, .int p2, .int p3, .int p4]) ++ List.replicate (6 - (lg_sl ([.ref mo, .int p1, .int p2, .int p3, .int p4])).length) Slot.unset).toArray = ls at hl ⊢
  have hl : lv_has ls 6 [(0, .ref mo), (1, .int p1), (2, .int p2), (3, .int p3), (4, .int p4)] := hl
  refine lv_aload_n hx hb dX6_put_0 rfl (lv_at hl 0 rfl) ?_
  refine lv_iconst (v := 0) hx hb dX6_put_1 (by decide) ?_
  refine va_put (D := (dC, dI)) (ci := 6) (v := .int 0) (ty := .int) (C := RX6) (T := TX6) (N := 13) hx hb (ly_6 h hb0) (fun _ z => z) tyX6 tyX6_ok nmX6 hown hK hP hD hS 0 rfl rfl 0 (by decide) (k_531 h hb0) (fun _ z => z) rfl (by decide +kernel) rfl rfl (Nat.le_of_ble_eq_true rfl) dX6_put_2 (fun H locs hP hD hS => ?_)
  have hP : va_P (dC, dI) vwCl [(mo, .inr (6, [.int 0, .ref mr, .ref ml, .int wr, .int gm, .int gh, .int gw, .int bm, .int bd, .int bc, .int ca, .ref ms, .ref mv])), (ms, .inl (cA 0, 20, .inl so)), (mv, .inl (cA 0, 20, .inl va))] H := hP
  have hD : va_D A [(mo, .inr (6, [.int 0, .ref mr, .ref ml, .int wr, .int gm, .int gh, .int gw, .int bm, .int bd, .int bc, .int ca, .ref ms, .ref mv])), (ms, .inl (cA 0, 20, .inl so)), (mv, .inl (cA 0, 20, .inl va))] := hD
  refine lv_iload_n hx hb dX6_put_5 rfl (lv_at hl 3 rfl) ?_
  refine lv_iconst (v := 3) hx hb dX6_put_6 (by decide) ?_
  refine lv_iand hx hb dX6_put_7 ?_
  rw [hw]
  refine lv_istore (lv' := [(5, .int 0), (0, .ref mo), (1, .int p1), (2, .int p2), (3, .int p3), (4, .int p4)]) hx hb dX6_put_8 hl (by decide) rfl (fun ls hl => ?_)
  refine lv_aload_n hx hb dX6_put_10 rfl (lv_at hl 1 rfl) ?_
  refine va_get (D := (dC, dI)) (ci := 6) (v := .int bm) (C := RX6) (T := TX6) (N := 13) hx hb (ly_6 h hb0) (fun _ z => z) hown hK hP 0 rfl rfl 7 (by decide) (k_538 h hb0) (fun _ z => z) rfl dX6_put_11 ?_
  refine lv_if_eq (tgt := 21) hx hb dX6_put_14 (by decide) (fun c_1 => ?_) (fun c_1 => ?_)
  · exact absurd c_1 ht
  · refine lv_iload_n hx hb dX6_put_17 rfl (lv_at hl 2 rfl) ?_
    refine lv_if_ne (tgt := 27) hx hb dX6_put_18 (by decide) (fun c_2 => ?_) (fun c_2 => ?_)
    · refine lv_iload_n hx hb dX6_put_27 rfl (lv_at hl 3 rfl) ?_
      refine lv_if_lt (tgt := 39) hx hb dX6_put_28 (by decide) (fun c_3 => ?_) (fun c_3 => ?_)
      · exact absurd c_3 h0
      · refine lv_iload_n hx hb dX6_put_31 rfl (lv_at hl 3 rfl) ?_
        refine lv_aload_n hx hb dX6_put_32 rfl (lv_at hl 1 rfl) ?_
        refine va_get (D := (dC, dI)) (ci := 6) (v := .int bc) (C := RX6) (T := TX6) (N := 13) hx hb (ly_6 h hb0) (fun _ z => z) hown hK hP 0 rfl rfl 9 (by decide) (k_540 h hb0) (fun _ z => z) rfl dX6_put_33 ?_
        refine lv_icmp_lt (tgt := 45) hx hb dX6_put_36 (by decide) (fun c_4 => ?_) (fun c_4 => ?_)
        · refine lv_iload hx hb dX6_put_45 (lv_at hl 0 rfl) ?_
          refine lv_iconst (v := 1) hx hb dX6_put_47 (by decide) ?_
          refine lv_icmp_ne (tgt := 64) hx hb dX6_put_48 (by decide) (fun c_5 => ?_) (fun c_5 => ?_)
          · refine lv_aload_n hx hb dX6_put_64 rfl (lv_at hl 1 rfl) ?_
            refine va_get (D := (dC, dI)) (ci := 6) (v := .ref ms) (C := RX6) (T := TX6) (N := 13) hx hb (ly_6 h hb0) (fun _ z => z) hown hK hP 0 rfl rfl 11 (by decide) (k_542 h hb0) (fun _ z => z) rfl dX6_put_65 ?_
            refine lv_iload_n hx hb dX6_put_68 rfl (lv_at hl 3 rfl) ?_
            refine lv_iload hx hb dX6_put_69 (lv_at hl 0 rfl) ?_
            refine lv_iconst (v := 2) hx hb dX6_put_71 (by decide) ?_
            refine lv_icmp_le (tgt := 79) hx hb dX6_put_72 (by decide) (fun c_6 => ?_) (fun c_6 => ?_)
            · refine lv_iload hx hb dX6_put_79 (lv_at hl 0 rfl) ?_
              refine va_iast hx hb hK hP hD hS 1 0 rfl rfl hi dX6_put_81 (fun H locs hP hD hS => ?_)
              have hP : va_P (dC, dI) vwCl [(mo, .inr (6, [.int 0, .ref mr, .ref ml, .int wr, .int gm, .int gh, .int gw, .int bm, .int bd, .int bc, .int ca, .ref ms, .ref mv])), (ms, .inl (cA 0, 20, .inl (upd so p2.toNatClampNeg 0))), (mv, .inl (cA 0, 20, .inl va))] H := hP
              have hD : va_D A [(mo, .inr (6, [.int 0, .ref mr, .ref ml, .int wr, .int gm, .int gh, .int gw, .int bm, .int bd, .int bc, .int ca, .ref ms, .ref mv])), (ms, .inl (cA 0, 20, .inl (upd so p2.toNatClampNeg 0))), (mv, .inl (cA 0, 20, .inl va))] := hD
              refine lv_aload_n hx hb dX6_put_82 rfl (lv_at hl 1 rfl) ?_
              refine va_get (D := (dC, dI)) (ci := 6) (v := .ref mv) (C := RX6) (T := TX6) (N := 13) hx hb (ly_6 h hb0) (fun _ z => z) hown hK hP 0 rfl rfl 12 (by decide) (k_543 h hb0) (fun _ z => z) rfl dX6_put_83 ?_
              refine lv_iload_n hx hb dX6_put_86 rfl (lv_at hl 3 rfl) ?_
              refine lv_iload hx hb dX6_put_87 (lv_at hl 5 rfl) ?_
              refine va_iast hx hb hK hP hD hS 2 0 rfl rfl hi dX6_put_89 (fun H locs hP hD hS => ?_)
              have hP : va_P (dC, dI) vwCl [(mo, .inr (6, [.int 0, .ref mr, .ref ml, .int wr, .int gm, .int gh, .int gw, .int bm, .int bd, .int bc, .int ca, .ref ms, .ref mv])), (ms, .inl (cA 0, 20, .inl (upd so p2.toNatClampNeg 0))), (mv, .inl (cA 0, 20, .inl (upd va p2.toNatClampNeg p4)))] H := hP
              have hD : va_D A [(mo, .inr (6, [.int 0, .ref mr, .ref ml, .int wr, .int gm, .int gh, .int gw, .int bm, .int bd, .int bc, .int ca, .ref ms, .ref mv])), (ms, .inl (cA 0, 20, .inl (upd so p2.toNatClampNeg 0))), (mv, .inl (cA 0, 20, .inl (upd va p2.toNatClampNeg p4)))] := hD
              refine lv_aload_n hx hb dX6_put_90 rfl (lv_at hl 1 rfl) ?_
              refine lv_dup hx hb dX6_put_91 rfl ?_
              refine va_get (D := (dC, dI)) (ci := 6) (v := .int ca) (C := RX6) (T := TX6) (N := 13) hx hb (ly_6 h hb0) (fun _ z => z) hown hK hP 0 rfl rfl 10 (by decide) (k_541 h hb0) (fun _ z => z) rfl dX6_put_92 ?_
              refine lv_iconst (v := 1) hx hb dX6_put_95 (by decide) ?_
              refine lv_iadd hx hb dX6_put_96 ?_
              refine va_put (D := (dC, dI)) (ci := 6) (v := .int (ca + 1)) (ty := .int) (C := RX6) (T := TX6) (N := 13) hx hb (ly_6 h hb0) (fun _ z => z) tyX6 tyX6_ok nmX6 hown hK hP hD hS 0 rfl rfl 10 (by decide) (k_541 h hb0) (fun _ z => z) rfl (by decide +kernel) rfl rfl (Nat.le_of_ble_eq_true rfl) dX6_put_97 (fun H locs hP hD hS => ?_)
              have hP : va_P (dC, dI) vwCl [(mo, .inr (6, [.int 0, .ref mr, .ref ml, .int wr, .int gm, .int gh, .int gw, .int bm, .int bd, .int bc, .int (ca + 1), .ref ms, .ref mv])), (ms, .inl (cA 0, 20, .inl (upd so p2.toNatClampNeg 0))), (mv, .inl (cA 0, 20, .inl (upd va p2.toNatClampNeg p4)))] H := hP
              have hD : va_D A [(mo, .inr (6, [.int 0, .ref mr, .ref ml, .int wr, .int gm, .int gh, .int gw, .int bm, .int bd, .int bc, .int (ca + 1), .ref ms, .ref mv])), (ms, .inl (cA 0, 20, .inl (upd so p2.toNatClampNeg 0))), (mv, .inl (cA 0, 20, .inl (upd va p2.toNatClampNeg p4)))] := hD
              refine lv_aload_n hx hb dX6_put_100 rfl (lv_at hl 1 rfl) ?_
              refine va_get (D := (dC, dI)) (ci := 6) (v := .int (ca + 1)) (C := RX6) (T := TX6) (N := 13) hx hb (ly_6 h hb0) (fun _ z => z) hown hK hP 0 rfl rfl 10 (by decide) (k_541 h hb0) (fun _ z => z) rfl dX6_put_101 ?_
              exact W.iret hx hb hr (fun t ht _ => ⟨(some (.int (ca + 1))), _, rfl, ⟨rfl, rfl⟩, by rw [ht]; exact hP, hD, hS.F ht⟩) (fun q z => hS.2.2 q z) dX6_put_104
            · exact absurd (by decide) c_6
          · exact absurd c_5 (by decide)
        · exact absurd h1 c_4
    · exact absurd c_2 hp
set_option maxHeartbeats 4000000 in
set_option maxRecDepth 100000 in
theorem m_put_f {l : Launch} {s0 : State} {a0 : Array Value} {dC : Nat → ClassId} {dI : Nat → Nat → Nat} {cA : Nat → ClassId} (h : xC l s0 a0 dC dI cA) (mo mr ml ms mv : Nat) (th wr gm gh gw bm bd bc ca : Int32) (so : Nat → Int32) (va : Nat → Int32) (p1 p2 p3 p4 : Int32) (sz : Nat) (ht : ¬ bm = 0) (hp : ¬ p1 = 0) (h0 : ¬ p2 < 0) (h1 : p2 < bc) (hi : vp_in p2 20) (hw : p3 &&& 3 = 1) (hd : bd = 0) : Met l yX6_put [Cond.code yX6_put cX6_put 6 (some .int)] ({ frames := 1, cells := 0, slots := 0, locals := 40 } : Room) (xPM s0 (dC, dI) [.ref mo, .int p1, .int p2, .int p3, .int p4] [] [(mo, .inr (6, [.int th, .ref mr, .ref ml, .int wr, .int gm, .int gh, .int gw, .int bm, .int bd, .int bc, .int ca, .ref ms, .ref mv])), (ms, .inl (cA 0, 20, .inl so)), (mv, .inl (cA 0, 20, .inl va))] sz) (xQM (dC, dI) (va_A [(mo, .inr (6, [.int th, .ref mr, .ref ml, .int wr, .int gm, .int gh, .int gw, .int bm, .int bd, .int bc, .int ca, .ref ms, .ref mv])), (ms, .inl (cA 0, 20, .inl so)), (mv, .inl (cA 0, 20, .inl va))] sz) (fun r w1 => r = some (.int (ca + 1)) ∧ w1 = [(mo, .inr (6, [.int 0, .ref mr, .ref ml, .int wr, .int gm, .int gh, .int gw, .int bm, .int bd, .int bc, .int (ca + 1), .ref ms, .ref mv])), (ms, .inl (cA 0, 20, .inl (upd so p2.toNatClampNeg 1))), (mv, .inl (cA 0, 20, .inl (upd va p2.toNatClampNeg p4)))])) 0 0 (va_A [(mo, .inr (6, [.int th, .ref mr, .ref ml, .int wr, .int gm, .int gh, .int gw, .int bm, .int bd, .int bc, .int ca, .ref ms, .ref mv])), (ms, .inl (cA 0, 20, .inl so)), (mv, .inl (cA 0, 20, .inl va))] sz) := by
  refine Met.ofW (cc := cX6_put) (maxL := 6) (ret := (some .int)) (by decide) rfl ?_
  intro p e s m args below meth c s₁ B hml hv
  obtain ⟨rfl, rfl, hb0, hPr, hP, hD0⟩ := hv
  have hx := B.exec
  have hb := B.bytes
  have hr := B.returns
  have hown : s.vm.findClass RX6 = some m.cls := findClass_of_methodNamed B.named
  have hlocks := B.notSynchronized
  have hK := h.K hb0
  have hS : va_S (va_A [(mo, .inr (6, [.int th, .ref mr, .ref ml, .int wr, .int gm, .int gh, .int gw, .int bm, .int bd, .int bc, .int ca, .ref ms, .ref mv])), (ms, .inl (cA 0, 20, .inl so)), (mv, .inl (cA 0, 20, .inl va))] s.heap.size) s.heap s.heap [] := va_S.rf
  obtain ⟨A, hAe, hD, hA, hz, hRo, hwk, hnR⟩ := xM_start hb0 hPr hP hD0
  rw [hAe] at hS ⊢
  have hl := lv_entry ([.ref mo, .int p1, .int p2, .int p3, .int p4]) (n := 6) (Nat.le_of_ble_eq_true rfl)
  rw [lg_entry_eq]
  generalize (lg_sl ([.ref mo, .int p1, .int p2, .int p3, .int p4]) ++ List.replicate (6 - (lg_sl ([.ref mo, .int p1, .int p2, .int p3, .int p4])).length) Slot.unset).toArray = ls at hl ⊢
  have hl : lv_has ls 6 [(0, .ref mo), (1, .int p1), (2, .int p2), (3, .int p3), (4, .int p4)] := hl
  refine lv_aload_n hx hb dX6_put_0 rfl (lv_at hl 0 rfl) ?_
  refine lv_iconst (v := 0) hx hb dX6_put_1 (by decide) ?_
  refine va_put (D := (dC, dI)) (ci := 6) (v := .int 0) (ty := .int) (C := RX6) (T := TX6) (N := 13) hx hb (ly_6 h hb0) (fun _ z => z) tyX6 tyX6_ok nmX6 hown hK hP hD hS 0 rfl rfl 0 (by decide) (k_531 h hb0) (fun _ z => z) rfl (by decide +kernel) rfl rfl (Nat.le_of_ble_eq_true rfl) dX6_put_2 (fun H locs hP hD hS => ?_)
  have hP : va_P (dC, dI) vwCl [(mo, .inr (6, [.int 0, .ref mr, .ref ml, .int wr, .int gm, .int gh, .int gw, .int bm, .int bd, .int bc, .int ca, .ref ms, .ref mv])), (ms, .inl (cA 0, 20, .inl so)), (mv, .inl (cA 0, 20, .inl va))] H := hP
  have hD : va_D A [(mo, .inr (6, [.int 0, .ref mr, .ref ml, .int wr, .int gm, .int gh, .int gw, .int bm, .int bd, .int bc, .int ca, .ref ms, .ref mv])), (ms, .inl (cA 0, 20, .inl so)), (mv, .inl (cA 0, 20, .inl va))] := hD
  refine lv_iload_n hx hb dX6_put_5 rfl (lv_at hl 3 rfl) ?_
  refine lv_iconst (v := 3) hx hb dX6_put_6 (by decide) ?_
  refine lv_iand hx hb dX6_put_7 ?_
  rw [hw]
  refine lv_istore (lv' := [(5, .int 1), (0, .ref mo), (1, .int p1), (2, .int p2), (3, .int p3), (4, .int p4)]) hx hb dX6_put_8 hl (by decide) rfl (fun ls hl => ?_)
  refine lv_aload_n hx hb dX6_put_10 rfl (lv_at hl 1 rfl) ?_
  refine va_get (D := (dC, dI)) (ci := 6) (v := .int bm) (C := RX6) (T := TX6) (N := 13) hx hb (ly_6 h hb0) (fun _ z => z) hown hK hP 0 rfl rfl 7 (by decide) (k_538 h hb0) (fun _ z => z) rfl dX6_put_11 ?_
  refine lv_if_eq (tgt := 21) hx hb dX6_put_14 (by decide) (fun c_1 => ?_) (fun c_1 => ?_)
  · exact absurd c_1 ht
  · refine lv_iload_n hx hb dX6_put_17 rfl (lv_at hl 2 rfl) ?_
    refine lv_if_ne (tgt := 27) hx hb dX6_put_18 (by decide) (fun c_2 => ?_) (fun c_2 => ?_)
    · refine lv_iload_n hx hb dX6_put_27 rfl (lv_at hl 3 rfl) ?_
      refine lv_if_lt (tgt := 39) hx hb dX6_put_28 (by decide) (fun c_3 => ?_) (fun c_3 => ?_)
      · exact absurd c_3 h0
      · refine lv_iload_n hx hb dX6_put_31 rfl (lv_at hl 3 rfl) ?_
        refine lv_aload_n hx hb dX6_put_32 rfl (lv_at hl 1 rfl) ?_
        refine va_get (D := (dC, dI)) (ci := 6) (v := .int bc) (C := RX6) (T := TX6) (N := 13) hx hb (ly_6 h hb0) (fun _ z => z) hown hK hP 0 rfl rfl 9 (by decide) (k_540 h hb0) (fun _ z => z) rfl dX6_put_33 ?_
        refine lv_icmp_lt (tgt := 45) hx hb dX6_put_36 (by decide) (fun c_4 => ?_) (fun c_4 => ?_)
        · refine lv_iload hx hb dX6_put_45 (lv_at hl 0 rfl) ?_
          refine lv_iconst (v := 1) hx hb dX6_put_47 (by decide) ?_
          refine lv_icmp_ne (tgt := 64) hx hb dX6_put_48 (by decide) (fun c_5 => ?_) (fun c_5 => ?_)
          · exact absurd rfl c_5
          · refine lv_aload_n hx hb dX6_put_51 rfl (lv_at hl 1 rfl) ?_
            refine va_get (D := (dC, dI)) (ci := 6) (v := .int bd) (C := RX6) (T := TX6) (N := 13) hx hb (ly_6 h hb0) (fun _ z => z) hown hK hP 0 rfl rfl 8 (by decide) (k_539 h hb0) (fun _ z => z) rfl dX6_put_52 ?_
            refine lv_if_eq (tgt := 64) hx hb dX6_put_55 (by decide) (fun c_6 => ?_) (fun c_6 => ?_)
            · refine lv_aload_n hx hb dX6_put_64 rfl (lv_at hl 1 rfl) ?_
              refine va_get (D := (dC, dI)) (ci := 6) (v := .ref ms) (C := RX6) (T := TX6) (N := 13) hx hb (ly_6 h hb0) (fun _ z => z) hown hK hP 0 rfl rfl 11 (by decide) (k_542 h hb0) (fun _ z => z) rfl dX6_put_65 ?_
              refine lv_iload_n hx hb dX6_put_68 rfl (lv_at hl 3 rfl) ?_
              refine lv_iload hx hb dX6_put_69 (lv_at hl 0 rfl) ?_
              refine lv_iconst (v := 2) hx hb dX6_put_71 (by decide) ?_
              refine lv_icmp_le (tgt := 79) hx hb dX6_put_72 (by decide) (fun c_7 => ?_) (fun c_7 => ?_)
              · refine lv_iload hx hb dX6_put_79 (lv_at hl 0 rfl) ?_
                refine va_iast hx hb hK hP hD hS 1 0 rfl rfl hi dX6_put_81 (fun H locs hP hD hS => ?_)
                have hP : va_P (dC, dI) vwCl [(mo, .inr (6, [.int 0, .ref mr, .ref ml, .int wr, .int gm, .int gh, .int gw, .int bm, .int bd, .int bc, .int ca, .ref ms, .ref mv])), (ms, .inl (cA 0, 20, .inl (upd so p2.toNatClampNeg 1))), (mv, .inl (cA 0, 20, .inl va))] H := hP
                have hD : va_D A [(mo, .inr (6, [.int 0, .ref mr, .ref ml, .int wr, .int gm, .int gh, .int gw, .int bm, .int bd, .int bc, .int ca, .ref ms, .ref mv])), (ms, .inl (cA 0, 20, .inl (upd so p2.toNatClampNeg 1))), (mv, .inl (cA 0, 20, .inl va))] := hD
                refine lv_aload_n hx hb dX6_put_82 rfl (lv_at hl 1 rfl) ?_
                refine va_get (D := (dC, dI)) (ci := 6) (v := .ref mv) (C := RX6) (T := TX6) (N := 13) hx hb (ly_6 h hb0) (fun _ z => z) hown hK hP 0 rfl rfl 12 (by decide) (k_543 h hb0) (fun _ z => z) rfl dX6_put_83 ?_
                refine lv_iload_n hx hb dX6_put_86 rfl (lv_at hl 3 rfl) ?_
                refine lv_iload hx hb dX6_put_87 (lv_at hl 5 rfl) ?_
                refine va_iast hx hb hK hP hD hS 2 0 rfl rfl hi dX6_put_89 (fun H locs hP hD hS => ?_)
                have hP : va_P (dC, dI) vwCl [(mo, .inr (6, [.int 0, .ref mr, .ref ml, .int wr, .int gm, .int gh, .int gw, .int bm, .int bd, .int bc, .int ca, .ref ms, .ref mv])), (ms, .inl (cA 0, 20, .inl (upd so p2.toNatClampNeg 1))), (mv, .inl (cA 0, 20, .inl (upd va p2.toNatClampNeg p4)))] H := hP
                have hD : va_D A [(mo, .inr (6, [.int 0, .ref mr, .ref ml, .int wr, .int gm, .int gh, .int gw, .int bm, .int bd, .int bc, .int ca, .ref ms, .ref mv])), (ms, .inl (cA 0, 20, .inl (upd so p2.toNatClampNeg 1))), (mv, .inl (cA 0, 20, .inl (upd va p2.toNatClampNeg p4)))] := hD
                refine lv_aload_n hx hb dX6_put_90 rfl (lv_at hl 1 rfl) ?_
                refine lv_dup hx hb dX6_put_91 rfl ?_
                refine va_get (D := (dC, dI)) (ci := 6) (v := .int ca) (C := RX6) (T := TX6) (N := 13) hx hb (ly_6 h hb0) (fun _ z => z) hown hK hP 0 rfl rfl 10 (by decide) (k_541 h hb0) (fun _ z => z) rfl dX6_put_92 ?_
                refine lv_iconst (v := 1) hx hb dX6_put_95 (by decide) ?_
                refine lv_iadd hx hb dX6_put_96 ?_
                refine va_put (D := (dC, dI)) (ci := 6) (v := .int (ca + 1)) (ty := .int) (C := RX6) (T := TX6) (N := 13) hx hb (ly_6 h hb0) (fun _ z => z) tyX6 tyX6_ok nmX6 hown hK hP hD hS 0 rfl rfl 10 (by decide) (k_541 h hb0) (fun _ z => z) rfl (by decide +kernel) rfl rfl (Nat.le_of_ble_eq_true rfl) dX6_put_97 (fun H locs hP hD hS => ?_)
                have hP : va_P (dC, dI) vwCl [(mo, .inr (6, [.int 0, .ref mr, .ref ml, .int wr, .int gm, .int gh, .int gw, .int bm, .int bd, .int bc, .int (ca + 1), .ref ms, .ref mv])), (ms, .inl (cA 0, 20, .inl (upd so p2.toNatClampNeg 1))), (mv, .inl (cA 0, 20, .inl (upd va p2.toNatClampNeg p4)))] H := hP
                have hD : va_D A [(mo, .inr (6, [.int 0, .ref mr, .ref ml, .int wr, .int gm, .int gh, .int gw, .int bm, .int bd, .int bc, .int (ca + 1), .ref ms, .ref mv])), (ms, .inl (cA 0, 20, .inl (upd so p2.toNatClampNeg 1))), (mv, .inl (cA 0, 20, .inl (upd va p2.toNatClampNeg p4)))] := hD
                refine lv_aload_n hx hb dX6_put_100 rfl (lv_at hl 1 rfl) ?_
                refine va_get (D := (dC, dI)) (ci := 6) (v := .int (ca + 1)) (C := RX6) (T := TX6) (N := 13) hx hb (ly_6 h hb0) (fun _ z => z) hown hK hP 0 rfl rfl 10 (by decide) (k_541 h hb0) (fun _ z => z) rfl dX6_put_101 ?_
                exact W.iret hx hb hr (fun t ht _ => ⟨(some (.int (ca + 1))), _, rfl, ⟨rfl, rfl⟩, by rw [ht]; exact hP, hD, hS.F ht⟩) (fun q z => hS.2.2 q z) dX6_put_104
              · exact absurd (by decide) c_7
            · exact absurd hd c_6
        · exact absurd h1 c_4
    · exact absurd c_2 hp
set_option maxHeartbeats 4000000 in
set_option maxRecDepth 100000 in
theorem m_put_d {l : Launch} {s0 : State} {a0 : Array Value} {dC : Nat → ClassId} {dI : Nat → Nat → Nat} {cA : Nat → ClassId} (h : xC l s0 a0 dC dI cA) (mo mr ml ms mv : Nat) (th wr gm gh gw bm bd bc ca : Int32) (so : Nat → Int32) (va : Nat → Int32) (p1 p2 p3 p4 : Int32) (sz : Nat) (ht : ¬ bm = 0) (hp : ¬ p1 = 0) (h0 : ¬ p2 < 0) (h1 : p2 < bc) (hi : vp_in p2 20) (hw : p3 &&& 3 = 2 ∨ p3 &&& 3 = 3) : Met l yX6_put [Cond.code yX6_put cX6_put 6 (some .int)] ({ frames := 1, cells := 0, slots := 0, locals := 40 } : Room) (xPM s0 (dC, dI) [.ref mo, .int p1, .int p2, .int p3, .int p4] [] [(mo, .inr (6, [.int th, .ref mr, .ref ml, .int wr, .int gm, .int gh, .int gw, .int bm, .int bd, .int bc, .int ca, .ref ms, .ref mv])), (ms, .inl (cA 0, 20, .inl so)), (mv, .inl (cA 0, 20, .inl va))] sz) (xQM (dC, dI) (va_A [(mo, .inr (6, [.int th, .ref mr, .ref ml, .int wr, .int gm, .int gh, .int gw, .int bm, .int bd, .int bc, .int ca, .ref ms, .ref mv])), (ms, .inl (cA 0, 20, .inl so)), (mv, .inl (cA 0, 20, .inl va))] sz) (fun r w1 => r = some (.int (ca + 1)) ∧ w1 = [(mo, .inr (6, [.int 0, .ref mr, .ref ml, .int wr, .int gm, .int gh, .int gw, .int bm, .int bd, .int bc, .int (ca + 1), .ref ms, .ref mv])), (ms, .inl (cA 0, 20, .inl (upd so p2.toNatClampNeg 2))), (mv, .inl (cA 0, 20, .inl (upd va p2.toNatClampNeg p4)))])) 0 0 (va_A [(mo, .inr (6, [.int th, .ref mr, .ref ml, .int wr, .int gm, .int gh, .int gw, .int bm, .int bd, .int bc, .int ca, .ref ms, .ref mv])), (ms, .inl (cA 0, 20, .inl so)), (mv, .inl (cA 0, 20, .inl va))] sz) := by
  refine Met.ofW (cc := cX6_put) (maxL := 6) (ret := (some .int)) (by decide) rfl ?_
  intro p e s m args below meth c s₁ B hml hv
  obtain ⟨rfl, rfl, hb0, hPr, hP, hD0⟩ := hv
  have hx := B.exec
  have hb := B.bytes
  have hr := B.returns
  have hown : s.vm.findClass RX6 = some m.cls := findClass_of_methodNamed B.named
  have hlocks := B.notSynchronized
  have hK := h.K hb0
  have hS : va_S (va_A [(mo, .inr (6, [.int th, .ref mr, .ref ml, .int wr, .int gm, .int gh, .int gw, .int bm, .int bd, .int bc, .int ca, .ref ms, .ref mv])), (ms, .inl (cA 0, 20, .inl so)), (mv, .inl (cA 0, 20, .inl va))] s.heap.size) s.heap s.heap [] := va_S.rf
  obtain ⟨A, hAe, hD, hA, hz, hRo, hwk, hnR⟩ := xM_start hb0 hPr hP hD0
  rw [hAe] at hS ⊢
  have hl := lv_entry ([.ref mo, .int p1, .int p2, .int p3, .int p4]) (n := 6) (Nat.le_of_ble_eq_true rfl)
  rw [lg_entry_eq]
  generalize (lg_sl ([.ref mo, .int p1, .int p2, .int p3, .int p4]) ++ List.replicate (6 - (lg_sl ([.ref mo, .int p1, .int p2, .int p3, .int p4])).length) Slot.unset).toArray = ls at hl ⊢
  have hl : lv_has ls 6 [(0, .ref mo), (1, .int p1), (2, .int p2), (3, .int p3), (4, .int p4)] := hl
  refine lv_aload_n hx hb dX6_put_0 rfl (lv_at hl 0 rfl) ?_
  refine lv_iconst (v := 0) hx hb dX6_put_1 (by decide) ?_
  refine va_put (D := (dC, dI)) (ci := 6) (v := .int 0) (ty := .int) (C := RX6) (T := TX6) (N := 13) hx hb (ly_6 h hb0) (fun _ z => z) tyX6 tyX6_ok nmX6 hown hK hP hD hS 0 rfl rfl 0 (by decide) (k_531 h hb0) (fun _ z => z) rfl (by decide +kernel) rfl rfl (Nat.le_of_ble_eq_true rfl) dX6_put_2 (fun H locs hP hD hS => ?_)
  have hP : va_P (dC, dI) vwCl [(mo, .inr (6, [.int 0, .ref mr, .ref ml, .int wr, .int gm, .int gh, .int gw, .int bm, .int bd, .int bc, .int ca, .ref ms, .ref mv])), (ms, .inl (cA 0, 20, .inl so)), (mv, .inl (cA 0, 20, .inl va))] H := hP
  have hD : va_D A [(mo, .inr (6, [.int 0, .ref mr, .ref ml, .int wr, .int gm, .int gh, .int gw, .int bm, .int bd, .int bc, .int ca, .ref ms, .ref mv])), (ms, .inl (cA 0, 20, .inl so)), (mv, .inl (cA 0, 20, .inl va))] := hD
  rcases hw with hw | hw
  · refine lv_iload_n hx hb dX6_put_5 rfl (lv_at hl 3 rfl) ?_
    refine lv_iconst (v := 3) hx hb dX6_put_6 (by decide) ?_
    refine lv_iand hx hb dX6_put_7 ?_
    rw [hw]
    refine lv_istore (lv' := [(5, .int 2), (0, .ref mo), (1, .int p1), (2, .int p2), (3, .int p3), (4, .int p4)]) hx hb dX6_put_8 hl (by decide) rfl (fun ls hl => ?_)
    refine lv_aload_n hx hb dX6_put_10 rfl (lv_at hl 1 rfl) ?_
    refine va_get (D := (dC, dI)) (ci := 6) (v := .int bm) (C := RX6) (T := TX6) (N := 13) hx hb (ly_6 h hb0) (fun _ z => z) hown hK hP 0 rfl rfl 7 (by decide) (k_538 h hb0) (fun _ z => z) rfl dX6_put_11 ?_
    refine lv_if_eq (tgt := 21) hx hb dX6_put_14 (by decide) (fun c_1 => ?_) (fun c_1 => ?_)
    · exact absurd c_1 ht
    · refine lv_iload_n hx hb dX6_put_17 rfl (lv_at hl 2 rfl) ?_
      refine lv_if_ne (tgt := 27) hx hb dX6_put_18 (by decide) (fun c_2 => ?_) (fun c_2 => ?_)
      · refine lv_iload_n hx hb dX6_put_27 rfl (lv_at hl 3 rfl) ?_
        refine lv_if_lt (tgt := 39) hx hb dX6_put_28 (by decide) (fun c_3 => ?_) (fun c_3 => ?_)
        · exact absurd c_3 h0
        · refine lv_iload_n hx hb dX6_put_31 rfl (lv_at hl 3 rfl) ?_
          refine lv_aload_n hx hb dX6_put_32 rfl (lv_at hl 1 rfl) ?_
          refine va_get (D := (dC, dI)) (ci := 6) (v := .int bc) (C := RX6) (T := TX6) (N := 13) hx hb (ly_6 h hb0) (fun _ z => z) hown hK hP 0 rfl rfl 9 (by decide) (k_540 h hb0) (fun _ z => z) rfl dX6_put_33 ?_
          refine lv_icmp_lt (tgt := 45) hx hb dX6_put_36 (by decide) (fun c_4 => ?_) (fun c_4 => ?_)
          · refine lv_iload hx hb dX6_put_45 (lv_at hl 0 rfl) ?_
            refine lv_iconst (v := 1) hx hb dX6_put_47 (by decide) ?_
            refine lv_icmp_ne (tgt := 64) hx hb dX6_put_48 (by decide) (fun c_5 => ?_) (fun c_5 => ?_)
            · refine lv_aload_n hx hb dX6_put_64 rfl (lv_at hl 1 rfl) ?_
              refine va_get (D := (dC, dI)) (ci := 6) (v := .ref ms) (C := RX6) (T := TX6) (N := 13) hx hb (ly_6 h hb0) (fun _ z => z) hown hK hP 0 rfl rfl 11 (by decide) (k_542 h hb0) (fun _ z => z) rfl dX6_put_65 ?_
              refine lv_iload_n hx hb dX6_put_68 rfl (lv_at hl 3 rfl) ?_
              refine lv_iload hx hb dX6_put_69 (lv_at hl 0 rfl) ?_
              refine lv_iconst (v := 2) hx hb dX6_put_71 (by decide) ?_
              refine lv_icmp_le (tgt := 79) hx hb dX6_put_72 (by decide) (fun c_6 => ?_) (fun c_6 => ?_)
              · refine lv_iload hx hb dX6_put_79 (lv_at hl 0 rfl) ?_
                refine va_iast hx hb hK hP hD hS 1 0 rfl rfl hi dX6_put_81 (fun H locs hP hD hS => ?_)
                have hP : va_P (dC, dI) vwCl [(mo, .inr (6, [.int 0, .ref mr, .ref ml, .int wr, .int gm, .int gh, .int gw, .int bm, .int bd, .int bc, .int ca, .ref ms, .ref mv])), (ms, .inl (cA 0, 20, .inl (upd so p2.toNatClampNeg 2))), (mv, .inl (cA 0, 20, .inl va))] H := hP
                have hD : va_D A [(mo, .inr (6, [.int 0, .ref mr, .ref ml, .int wr, .int gm, .int gh, .int gw, .int bm, .int bd, .int bc, .int ca, .ref ms, .ref mv])), (ms, .inl (cA 0, 20, .inl (upd so p2.toNatClampNeg 2))), (mv, .inl (cA 0, 20, .inl va))] := hD
                refine lv_aload_n hx hb dX6_put_82 rfl (lv_at hl 1 rfl) ?_
                refine va_get (D := (dC, dI)) (ci := 6) (v := .ref mv) (C := RX6) (T := TX6) (N := 13) hx hb (ly_6 h hb0) (fun _ z => z) hown hK hP 0 rfl rfl 12 (by decide) (k_543 h hb0) (fun _ z => z) rfl dX6_put_83 ?_
                refine lv_iload_n hx hb dX6_put_86 rfl (lv_at hl 3 rfl) ?_
                refine lv_iload hx hb dX6_put_87 (lv_at hl 5 rfl) ?_
                refine va_iast hx hb hK hP hD hS 2 0 rfl rfl hi dX6_put_89 (fun H locs hP hD hS => ?_)
                have hP : va_P (dC, dI) vwCl [(mo, .inr (6, [.int 0, .ref mr, .ref ml, .int wr, .int gm, .int gh, .int gw, .int bm, .int bd, .int bc, .int ca, .ref ms, .ref mv])), (ms, .inl (cA 0, 20, .inl (upd so p2.toNatClampNeg 2))), (mv, .inl (cA 0, 20, .inl (upd va p2.toNatClampNeg p4)))] H := hP
                have hD : va_D A [(mo, .inr (6, [.int 0, .ref mr, .ref ml, .int wr, .int gm, .int gh, .int gw, .int bm, .int bd, .int bc, .int ca, .ref ms, .ref mv])), (ms, .inl (cA 0, 20, .inl (upd so p2.toNatClampNeg 2))), (mv, .inl (cA 0, 20, .inl (upd va p2.toNatClampNeg p4)))] := hD
                refine lv_aload_n hx hb dX6_put_90 rfl (lv_at hl 1 rfl) ?_
                refine lv_dup hx hb dX6_put_91 rfl ?_
                refine va_get (D := (dC, dI)) (ci := 6) (v := .int ca) (C := RX6) (T := TX6) (N := 13) hx hb (ly_6 h hb0) (fun _ z => z) hown hK hP 0 rfl rfl 10 (by decide) (k_541 h hb0) (fun _ z => z) rfl dX6_put_92 ?_
                refine lv_iconst (v := 1) hx hb dX6_put_95 (by decide) ?_
                refine lv_iadd hx hb dX6_put_96 ?_
                refine va_put (D := (dC, dI)) (ci := 6) (v := .int (ca + 1)) (ty := .int) (C := RX6) (T := TX6) (N := 13) hx hb (ly_6 h hb0) (fun _ z => z) tyX6 tyX6_ok nmX6 hown hK hP hD hS 0 rfl rfl 10 (by decide) (k_541 h hb0) (fun _ z => z) rfl (by decide +kernel) rfl rfl (Nat.le_of_ble_eq_true rfl) dX6_put_97 (fun H locs hP hD hS => ?_)
                have hP : va_P (dC, dI) vwCl [(mo, .inr (6, [.int 0, .ref mr, .ref ml, .int wr, .int gm, .int gh, .int gw, .int bm, .int bd, .int bc, .int (ca + 1), .ref ms, .ref mv])), (ms, .inl (cA 0, 20, .inl (upd so p2.toNatClampNeg 2))), (mv, .inl (cA 0, 20, .inl (upd va p2.toNatClampNeg p4)))] H := hP
                have hD : va_D A [(mo, .inr (6, [.int 0, .ref mr, .ref ml, .int wr, .int gm, .int gh, .int gw, .int bm, .int bd, .int bc, .int (ca + 1), .ref ms, .ref mv])), (ms, .inl (cA 0, 20, .inl (upd so p2.toNatClampNeg 2))), (mv, .inl (cA 0, 20, .inl (upd va p2.toNatClampNeg p4)))] := hD
                refine lv_aload_n hx hb dX6_put_100 rfl (lv_at hl 1 rfl) ?_
                refine va_get (D := (dC, dI)) (ci := 6) (v := .int (ca + 1)) (C := RX6) (T := TX6) (N := 13) hx hb (ly_6 h hb0) (fun _ z => z) hown hK hP 0 rfl rfl 10 (by decide) (k_541 h hb0) (fun _ z => z) rfl dX6_put_101 ?_
                exact W.iret hx hb hr (fun t ht _ => ⟨(some (.int (ca + 1))), _, rfl, ⟨rfl, rfl⟩, by rw [ht]; exact hP, hD, hS.F ht⟩) (fun q z => hS.2.2 q z) dX6_put_104
              · exact absurd (by decide) c_6
            · exact absurd c_5 (by decide)
          · exact absurd h1 c_4
      · exact absurd c_2 hp
  · refine lv_iload_n hx hb dX6_put_5 rfl (lv_at hl 3 rfl) ?_
    refine lv_iconst (v := 3) hx hb dX6_put_6 (by decide) ?_
    refine lv_iand hx hb dX6_put_7 ?_
    rw [hw]
    refine lv_istore (lv' := [(5, .int 3), (0, .ref mo), (1, .int p1), (2, .int p2), (3, .int p3), (4, .int p4)]) hx hb dX6_put_8 hl (by decide) rfl (fun ls hl => ?_)
    refine lv_aload_n hx hb dX6_put_10 rfl (lv_at hl 1 rfl) ?_
    refine va_get (D := (dC, dI)) (ci := 6) (v := .int bm) (C := RX6) (T := TX6) (N := 13) hx hb (ly_6 h hb0) (fun _ z => z) hown hK hP 0 rfl rfl 7 (by decide) (k_538 h hb0) (fun _ z => z) rfl dX6_put_11 ?_
    refine lv_if_eq (tgt := 21) hx hb dX6_put_14 (by decide) (fun c_7 => ?_) (fun c_7 => ?_)
    · exact absurd c_7 ht
    · refine lv_iload_n hx hb dX6_put_17 rfl (lv_at hl 2 rfl) ?_
      refine lv_if_ne (tgt := 27) hx hb dX6_put_18 (by decide) (fun c_8 => ?_) (fun c_8 => ?_)
      · refine lv_iload_n hx hb dX6_put_27 rfl (lv_at hl 3 rfl) ?_
        refine lv_if_lt (tgt := 39) hx hb dX6_put_28 (by decide) (fun c_9 => ?_) (fun c_9 => ?_)
        · exact absurd c_9 h0
        · refine lv_iload_n hx hb dX6_put_31 rfl (lv_at hl 3 rfl) ?_
          refine lv_aload_n hx hb dX6_put_32 rfl (lv_at hl 1 rfl) ?_
          refine va_get (D := (dC, dI)) (ci := 6) (v := .int bc) (C := RX6) (T := TX6) (N := 13) hx hb (ly_6 h hb0) (fun _ z => z) hown hK hP 0 rfl rfl 9 (by decide) (k_540 h hb0) (fun _ z => z) rfl dX6_put_33 ?_
          refine lv_icmp_lt (tgt := 45) hx hb dX6_put_36 (by decide) (fun c_10 => ?_) (fun c_10 => ?_)
          · refine lv_iload hx hb dX6_put_45 (lv_at hl 0 rfl) ?_
            refine lv_iconst (v := 1) hx hb dX6_put_47 (by decide) ?_
            refine lv_icmp_ne (tgt := 64) hx hb dX6_put_48 (by decide) (fun c_11 => ?_) (fun c_11 => ?_)
            · refine lv_aload_n hx hb dX6_put_64 rfl (lv_at hl 1 rfl) ?_
              refine va_get (D := (dC, dI)) (ci := 6) (v := .ref ms) (C := RX6) (T := TX6) (N := 13) hx hb (ly_6 h hb0) (fun _ z => z) hown hK hP 0 rfl rfl 11 (by decide) (k_542 h hb0) (fun _ z => z) rfl dX6_put_65 ?_
              refine lv_iload_n hx hb dX6_put_68 rfl (lv_at hl 3 rfl) ?_
              refine lv_iload hx hb dX6_put_69 (lv_at hl 0 rfl) ?_
              refine lv_iconst (v := 2) hx hb dX6_put_71 (by decide) ?_
              refine lv_icmp_le (tgt := 79) hx hb dX6_put_72 (by decide) (fun c_12 => ?_) (fun c_12 => ?_)
              · exact absurd c_12 (by decide)
              · refine lv_iconst (v := 2) hx hb dX6_put_75 (by decide) ?_
                refine lv_goto (tgt := 81) hx hb dX6_put_76 (by decide) ?_
                refine va_iast hx hb hK hP hD hS 1 0 rfl rfl hi dX6_put_81 (fun H locs hP hD hS => ?_)
                have hP : va_P (dC, dI) vwCl [(mo, .inr (6, [.int 0, .ref mr, .ref ml, .int wr, .int gm, .int gh, .int gw, .int bm, .int bd, .int bc, .int ca, .ref ms, .ref mv])), (ms, .inl (cA 0, 20, .inl (upd so p2.toNatClampNeg 2))), (mv, .inl (cA 0, 20, .inl va))] H := hP
                have hD : va_D A [(mo, .inr (6, [.int 0, .ref mr, .ref ml, .int wr, .int gm, .int gh, .int gw, .int bm, .int bd, .int bc, .int ca, .ref ms, .ref mv])), (ms, .inl (cA 0, 20, .inl (upd so p2.toNatClampNeg 2))), (mv, .inl (cA 0, 20, .inl va))] := hD
                refine lv_aload_n hx hb dX6_put_82 rfl (lv_at hl 1 rfl) ?_
                refine va_get (D := (dC, dI)) (ci := 6) (v := .ref mv) (C := RX6) (T := TX6) (N := 13) hx hb (ly_6 h hb0) (fun _ z => z) hown hK hP 0 rfl rfl 12 (by decide) (k_543 h hb0) (fun _ z => z) rfl dX6_put_83 ?_
                refine lv_iload_n hx hb dX6_put_86 rfl (lv_at hl 3 rfl) ?_
                refine lv_iload hx hb dX6_put_87 (lv_at hl 5 rfl) ?_
                refine va_iast hx hb hK hP hD hS 2 0 rfl rfl hi dX6_put_89 (fun H locs hP hD hS => ?_)
                have hP : va_P (dC, dI) vwCl [(mo, .inr (6, [.int 0, .ref mr, .ref ml, .int wr, .int gm, .int gh, .int gw, .int bm, .int bd, .int bc, .int ca, .ref ms, .ref mv])), (ms, .inl (cA 0, 20, .inl (upd so p2.toNatClampNeg 2))), (mv, .inl (cA 0, 20, .inl (upd va p2.toNatClampNeg p4)))] H := hP
                have hD : va_D A [(mo, .inr (6, [.int 0, .ref mr, .ref ml, .int wr, .int gm, .int gh, .int gw, .int bm, .int bd, .int bc, .int ca, .ref ms, .ref mv])), (ms, .inl (cA 0, 20, .inl (upd so p2.toNatClampNeg 2))), (mv, .inl (cA 0, 20, .inl (upd va p2.toNatClampNeg p4)))] := hD
                refine lv_aload_n hx hb dX6_put_90 rfl (lv_at hl 1 rfl) ?_
                refine lv_dup hx hb dX6_put_91 rfl ?_
                refine va_get (D := (dC, dI)) (ci := 6) (v := .int ca) (C := RX6) (T := TX6) (N := 13) hx hb (ly_6 h hb0) (fun _ z => z) hown hK hP 0 rfl rfl 10 (by decide) (k_541 h hb0) (fun _ z => z) rfl dX6_put_92 ?_
                refine lv_iconst (v := 1) hx hb dX6_put_95 (by decide) ?_
                refine lv_iadd hx hb dX6_put_96 ?_
                refine va_put (D := (dC, dI)) (ci := 6) (v := .int (ca + 1)) (ty := .int) (C := RX6) (T := TX6) (N := 13) hx hb (ly_6 h hb0) (fun _ z => z) tyX6 tyX6_ok nmX6 hown hK hP hD hS 0 rfl rfl 10 (by decide) (k_541 h hb0) (fun _ z => z) rfl (by decide +kernel) rfl rfl (Nat.le_of_ble_eq_true rfl) dX6_put_97 (fun H locs hP hD hS => ?_)
                have hP : va_P (dC, dI) vwCl [(mo, .inr (6, [.int 0, .ref mr, .ref ml, .int wr, .int gm, .int gh, .int gw, .int bm, .int bd, .int bc, .int (ca + 1), .ref ms, .ref mv])), (ms, .inl (cA 0, 20, .inl (upd so p2.toNatClampNeg 2))), (mv, .inl (cA 0, 20, .inl (upd va p2.toNatClampNeg p4)))] H := hP
                have hD : va_D A [(mo, .inr (6, [.int 0, .ref mr, .ref ml, .int wr, .int gm, .int gh, .int gw, .int bm, .int bd, .int bc, .int (ca + 1), .ref ms, .ref mv])), (ms, .inl (cA 0, 20, .inl (upd so p2.toNatClampNeg 2))), (mv, .inl (cA 0, 20, .inl (upd va p2.toNatClampNeg p4)))] := hD
                refine lv_aload_n hx hb dX6_put_100 rfl (lv_at hl 1 rfl) ?_
                refine va_get (D := (dC, dI)) (ci := 6) (v := .int (ca + 1)) (C := RX6) (T := TX6) (N := 13) hx hb (ly_6 h hb0) (fun _ z => z) hown hK hP 0 rfl rfl 10 (by decide) (k_541 h hb0) (fun _ z => z) rfl dX6_put_101 ?_
                exact W.iret hx hb hr (fun t ht _ => ⟨(some (.int (ca + 1))), _, rfl, ⟨rfl, rfl⟩, by rw [ht]; exact hP, hD, hS.F ht⟩) (fun q z => hS.2.2 q z) dX6_put_104
            · exact absurd c_11 (by decide)
          · exact absurd h1 c_10
      · exact absurd c_8 hp
set_option maxHeartbeats 4000000 in
set_option maxRecDepth 100000 in
theorem m_put_1 {l : Launch} {s0 : State} {a0 : Array Value} {dC : Nat → ClassId} {dI : Nat → Nat → Nat} {cA : Nat → ClassId} (h : xC l s0 a0 dC dI cA) (mo mr ml ms mv : Nat) (th wr gm gh gw bm bd bc ca : Int32) (p1 p2 p3 p4 : Int32) (sz : Nat) (ht : bm = 0) : Met l yX6_put [Cond.code yX6_put cX6_put 6 (some .int)] ({ frames := 1, cells := 0, slots := 0, locals := 40 } : Room) (xPM s0 (dC, dI) [.ref mo, .int p1, .int p2, .int p3, .int p4] [] [(mo, .inr (6, [.int th, .ref mr, .ref ml, .int wr, .int gm, .int gh, .int gw, .int bm, .int bd, .int bc, .int ca, .ref ms, .ref mv]))] sz) (xQM (dC, dI) (va_A [(mo, .inr (6, [.int th, .ref mr, .ref ml, .int wr, .int gm, .int gh, .int gw, .int bm, .int bd, .int bc, .int ca, .ref ms, .ref mv]))] sz) (fun r w1 => r = some (.int 0) ∧ w1 = [(mo, .inr (6, [.int 1, .ref mr, .ref ml, .int wr, .int gm, .int gh, .int gw, .int bm, .int bd, .int bc, .int ca, .ref ms, .ref mv]))])) 0 0 (va_A [(mo, .inr (6, [.int th, .ref mr, .ref ml, .int wr, .int gm, .int gh, .int gw, .int bm, .int bd, .int bc, .int ca, .ref ms, .ref mv]))] sz) := by
  refine Met.ofW (cc := cX6_put) (maxL := 6) (ret := (some .int)) (by decide) rfl ?_
  intro p e s m args below meth c s₁ B hml hv
  obtain ⟨rfl, rfl, hb0, hPr, hP, hD0⟩ := hv
  have hx := B.exec
  have hb := B.bytes
  have hr := B.returns
  have hown : s.vm.findClass RX6 = some m.cls := findClass_of_methodNamed B.named
  have hlocks := B.notSynchronized
  have hK := h.K hb0
  have hS : va_S (va_A [(mo, .inr (6, [.int th, .ref mr, .ref ml, .int wr, .int gm, .int gh, .int gw, .int bm, .int bd, .int bc, .int ca, .ref ms, .ref mv]))] s.heap.size) s.heap s.heap [] := va_S.rf
  obtain ⟨A, hAe, hD, hA, hz, hRo, hwk, hnR⟩ := xM_start hb0 hPr hP hD0
  rw [hAe] at hS ⊢
  have hl := lv_entry ([.ref mo, .int p1, .int p2, .int p3, .int p4]) (n := 6) (Nat.le_of_ble_eq_true rfl)
  rw [lg_entry_eq]
  generalize (lg_sl ([.ref mo, .int p1, .int p2, .int p3, .int p4]) ++ List.replicate (6 - (lg_sl ([.ref mo, .int p1, .int p2, .int p3, .int p4])).length) Slot.unset).toArray = ls at hl ⊢
  have hl : lv_has ls 6 [(0, .ref mo), (1, .int p1), (2, .int p2), (3, .int p3), (4, .int p4)] := hl
  refine lv_aload_n hx hb dX6_put_0 rfl (lv_at hl 0 rfl) ?_
  refine lv_iconst (v := 0) hx hb dX6_put_1 (by decide) ?_
  refine va_put (D := (dC, dI)) (ci := 6) (v := .int 0) (ty := .int) (C := RX6) (T := TX6) (N := 13) hx hb (ly_6 h hb0) (fun _ z => z) tyX6 tyX6_ok nmX6 hown hK hP hD hS 0 rfl rfl 0 (by decide) (k_531 h hb0) (fun _ z => z) rfl (by decide +kernel) rfl rfl (Nat.le_of_ble_eq_true rfl) dX6_put_2 (fun H locs hP hD hS => ?_)
  have hP : va_P (dC, dI) vwCl [(mo, .inr (6, [.int 0, .ref mr, .ref ml, .int wr, .int gm, .int gh, .int gw, .int bm, .int bd, .int bc, .int ca, .ref ms, .ref mv]))] H := hP
  have hD : va_D A [(mo, .inr (6, [.int 0, .ref mr, .ref ml, .int wr, .int gm, .int gh, .int gw, .int bm, .int bd, .int bc, .int ca, .ref ms, .ref mv]))] := hD
  refine lv_iload_n hx hb dX6_put_5 rfl (lv_at hl 3 rfl) ?_
  refine lv_iconst (v := 3) hx hb dX6_put_6 (by decide) ?_
  refine lv_iand hx hb dX6_put_7 ?_
  refine lv_istore (lv' := [(5, .int (p3 &&& 3)), (0, .ref mo), (1, .int p1), (2, .int p2), (3, .int p3), (4, .int p4)]) hx hb dX6_put_8 hl (by decide) rfl (fun ls hl => ?_)
  refine lv_aload_n hx hb dX6_put_10 rfl (lv_at hl 1 rfl) ?_
  refine va_get (D := (dC, dI)) (ci := 6) (v := .int bm) (C := RX6) (T := TX6) (N := 13) hx hb (ly_6 h hb0) (fun _ z => z) hown hK hP 0 rfl rfl 7 (by decide) (k_538 h hb0) (fun _ z => z) rfl dX6_put_11 ?_
  refine lv_if_eq (tgt := 21) hx hb dX6_put_14 (by decide) (fun c_1 => ?_) (fun c_1 => ?_)
  · refine lv_aload_n hx hb dX6_put_21 rfl (lv_at hl 1 rfl) ?_
    refine lv_iconst (v := 1) hx hb dX6_put_22 (by decide) ?_
    refine xm_of (wc := [(mo, .inr (6, [.int 0, .ref mr, .ref ml, .int wr, .int gm, .int gh, .int gw, .int bm, .int bd, .int bc, .int ca, .ref ms, .ref mv]))]) (wo := []) (va_runV (As := [.int 1]) (rest := []) ⟨hx, hb, hml, hown, xTs⟩ (c_fails h mo mr ml ms mv 0 wr gm gh gw bm bd bc ca 1 _) ⟨xB (n := 1) (k_582 h hb0) (k_5 h hb0) (k_579 h hb0) (by decide) rfl rfl rfl (by decide) (by decide), (k_581 h hb0), (ks_3 h hb0)⟩ (xpMV (wr := []) (wc := [(mo, .inr (6, [.int 0, .ref mr, .ref ml, .int wr, .int gm, .int gh, .int gw, .int bm, .int bd, .int bc, .int ca, .ref ms, .ref mv]))]) hb0 hS hz (va_P.sub hP [] rfl) (va_P.sub hP [0] rfl) (va_D.sub (hwk _ hD) [0] rfl rfl) (va_recv hK hP (ci := 6) (q0 := 0) rfl rfl)) rfl rfl hl.1 rfl (lv_room (Nat.le_of_ble_eq_true rfl)) dX6_put_23 ⟨(Nat.le_of_ble_eq_true rfl), (Nat.le_of_ble_eq_true rfl)⟩) hP hD hS hA [0] [] rfl rfl rfl (by decide) (fun r w1 H locs hΦ hP hD hS => ?_)
    obtain ⟨rfl, rfl⟩ := hΦ
    have hP : va_P (dC, dI) vwCl [(mo, .inr (6, [.int 1, .ref mr, .ref ml, .int wr, .int gm, .int gh, .int gw, .int bm, .int bd, .int bc, .int ca, .ref ms, .ref mv]))] H := hP
    have hD : va_D A [(mo, .inr (6, [.int 1, .ref mr, .ref ml, .int wr, .int gm, .int gh, .int gw, .int bm, .int bd, .int bc, .int ca, .ref ms, .ref mv]))] := hD
    exact W.iret hx hb hr (fun t ht _ => ⟨(some (.int 0)), _, rfl, ⟨rfl, rfl⟩, by rw [ht]; exact hP, hD, hS.F ht⟩) (fun q z => hS.2.2 q z) dX6_put_26
  · exact absurd ht c_1
set_option maxHeartbeats 4000000 in
set_option maxRecDepth 100000 in
theorem m_put_2 {l : Launch} {s0 : State} {a0 : Array Value} {dC : Nat → ClassId} {dI : Nat → Nat → Nat} {cA : Nat → ClassId} (h : xC l s0 a0 dC dI cA) (mo mr ml ms mv : Nat) (th wr gm gh gw bm bd bc ca : Int32) (p1 p2 p3 p4 : Int32) (sz : Nat) (ht : ¬ bm = 0) (hp : p1 = 0) : Met l yX6_put [Cond.code yX6_put cX6_put 6 (some .int)] ({ frames := 1, cells := 0, slots := 0, locals := 40 } : Room) (xPM s0 (dC, dI) [.ref mo, .int p1, .int p2, .int p3, .int p4] [] [(mo, .inr (6, [.int th, .ref mr, .ref ml, .int wr, .int gm, .int gh, .int gw, .int bm, .int bd, .int bc, .int ca, .ref ms, .ref mv]))] sz) (xQM (dC, dI) (va_A [(mo, .inr (6, [.int th, .ref mr, .ref ml, .int wr, .int gm, .int gh, .int gw, .int bm, .int bd, .int bc, .int ca, .ref ms, .ref mv]))] sz) (fun r w1 => r = some (.int 0) ∧ w1 = [(mo, .inr (6, [.int 1, .ref mr, .ref ml, .int wr, .int gm, .int gh, .int gw, .int bm, .int bd, .int bc, .int ca, .ref ms, .ref mv]))])) 0 0 (va_A [(mo, .inr (6, [.int th, .ref mr, .ref ml, .int wr, .int gm, .int gh, .int gw, .int bm, .int bd, .int bc, .int ca, .ref ms, .ref mv]))] sz) := by
  refine Met.ofW (cc := cX6_put) (maxL := 6) (ret := (some .int)) (by decide) rfl ?_
  intro p e s m args below meth c s₁ B hml hv
  obtain ⟨rfl, rfl, hb0, hPr, hP, hD0⟩ := hv
  have hx := B.exec
  have hb := B.bytes
  have hr := B.returns
  have hown : s.vm.findClass RX6 = some m.cls := findClass_of_methodNamed B.named
  have hlocks := B.notSynchronized
  have hK := h.K hb0
  have hS : va_S (va_A [(mo, .inr (6, [.int th, .ref mr, .ref ml, .int wr, .int gm, .int gh, .int gw, .int bm, .int bd, .int bc, .int ca, .ref ms, .ref mv]))] s.heap.size) s.heap s.heap [] := va_S.rf
  obtain ⟨A, hAe, hD, hA, hz, hRo, hwk, hnR⟩ := xM_start hb0 hPr hP hD0
  rw [hAe] at hS ⊢
  have hl := lv_entry ([.ref mo, .int p1, .int p2, .int p3, .int p4]) (n := 6) (Nat.le_of_ble_eq_true rfl)
  rw [lg_entry_eq]
  generalize (lg_sl ([.ref mo, .int p1, .int p2, .int p3, .int p4]) ++ List.replicate (6 - (lg_sl ([.ref mo, .int p1, .int p2, .int p3, .int p4])).length) Slot.unset).toArray = ls at hl ⊢
  have hl : lv_has ls 6 [(0, .ref mo), (1, .int p1), (2, .int p2), (3, .int p3), (4, .int p4)] := hl
  refine lv_aload_n hx hb dX6_put_0 rfl (lv_at hl 0 rfl) ?_
  refine lv_iconst (v := 0) hx hb dX6_put_1 (by decide) ?_
  refine va_put (D := (dC, dI)) (ci := 6) (v := .int 0) (ty := .int) (C := RX6) (T := TX6) (N := 13) hx hb (ly_6 h hb0) (fun _ z => z) tyX6 tyX6_ok nmX6 hown hK hP hD hS 0 rfl rfl 0 (by decide) (k_531 h hb0) (fun _ z => z) rfl (by decide +kernel) rfl rfl (Nat.le_of_ble_eq_true rfl) dX6_put_2 (fun H locs hP hD hS => ?_)
  have hP : va_P (dC, dI) vwCl [(mo, .inr (6, [.int 0, .ref mr, .ref ml, .int wr, .int gm, .int gh, .int gw, .int bm, .int bd, .int bc, .int ca, .ref ms, .ref mv]))] H := hP
  have hD : va_D A [(mo, .inr (6, [.int 0, .ref mr, .ref ml, .int wr, .int gm, .int gh, .int gw, .int bm, .int bd, .int bc, .int ca, .ref ms, .ref mv]))] := hD
  refine lv_iload_n hx hb dX6_put_5 rfl (lv_at hl 3 rfl) ?_
  refine lv_iconst (v := 3) hx hb dX6_put_6 (by decide) ?_
  refine lv_iand hx hb dX6_put_7 ?_
  refine lv_istore (lv' := [(5, .int (p3 &&& 3)), (0, .ref mo), (1, .int p1), (2, .int p2), (3, .int p3), (4, .int p4)]) hx hb dX6_put_8 hl (by decide) rfl (fun ls hl => ?_)
  refine lv_aload_n hx hb dX6_put_10 rfl (lv_at hl 1 rfl) ?_
  refine va_get (D := (dC, dI)) (ci := 6) (v := .int bm) (C := RX6) (T := TX6) (N := 13) hx hb (ly_6 h hb0) (fun _ z => z) hown hK hP 0 rfl rfl 7 (by decide) (k_538 h hb0) (fun _ z => z) rfl dX6_put_11 ?_
  refine lv_if_eq (tgt := 21) hx hb dX6_put_14 (by decide) (fun c_1 => ?_) (fun c_1 => ?_)
  · exact absurd c_1 ht
  · refine lv_iload_n hx hb dX6_put_17 rfl (lv_at hl 2 rfl) ?_
    refine lv_if_ne (tgt := 27) hx hb dX6_put_18 (by decide) (fun c_2 => ?_) (fun c_2 => ?_)
    · exact absurd hp c_2
    · refine lv_aload_n hx hb dX6_put_21 rfl (lv_at hl 1 rfl) ?_
      refine lv_iconst (v := 1) hx hb dX6_put_22 (by decide) ?_
      refine xm_of (wc := [(mo, .inr (6, [.int 0, .ref mr, .ref ml, .int wr, .int gm, .int gh, .int gw, .int bm, .int bd, .int bc, .int ca, .ref ms, .ref mv]))]) (wo := []) (va_runV (As := [.int 1]) (rest := []) ⟨hx, hb, hml, hown, xTs⟩ (c_fails h mo mr ml ms mv 0 wr gm gh gw bm bd bc ca 1 _) ⟨xB (n := 1) (k_582 h hb0) (k_5 h hb0) (k_579 h hb0) (by decide) rfl rfl rfl (by decide) (by decide), (k_581 h hb0), (ks_3 h hb0)⟩ (xpMV (wr := []) (wc := [(mo, .inr (6, [.int 0, .ref mr, .ref ml, .int wr, .int gm, .int gh, .int gw, .int bm, .int bd, .int bc, .int ca, .ref ms, .ref mv]))]) hb0 hS hz (va_P.sub hP [] rfl) (va_P.sub hP [0] rfl) (va_D.sub (hwk _ hD) [0] rfl rfl) (va_recv hK hP (ci := 6) (q0 := 0) rfl rfl)) rfl rfl hl.1 rfl (lv_room (Nat.le_of_ble_eq_true rfl)) dX6_put_23 ⟨(Nat.le_of_ble_eq_true rfl), (Nat.le_of_ble_eq_true rfl)⟩) hP hD hS hA [0] [] rfl rfl rfl (by decide) (fun r w1 H locs hΦ hP hD hS => ?_)
      obtain ⟨rfl, rfl⟩ := hΦ
      have hP : va_P (dC, dI) vwCl [(mo, .inr (6, [.int 1, .ref mr, .ref ml, .int wr, .int gm, .int gh, .int gw, .int bm, .int bd, .int bc, .int ca, .ref ms, .ref mv]))] H := hP
      have hD : va_D A [(mo, .inr (6, [.int 1, .ref mr, .ref ml, .int wr, .int gm, .int gh, .int gw, .int bm, .int bd, .int bc, .int ca, .ref ms, .ref mv]))] := hD
      exact W.iret hx hb hr (fun t ht _ => ⟨(some (.int 0)), _, rfl, ⟨rfl, rfl⟩, by rw [ht]; exact hP, hD, hS.F ht⟩) (fun q z => hS.2.2 q z) dX6_put_26
set_option maxHeartbeats 4000000 in
set_option maxRecDepth 100000 in
theorem m_put_A {l : Launch} {s0 : State} {a0 : Array Value} {dC : Nat → ClassId} {dI : Nat → Nat → Nat} {cA : Nat → ClassId} (h : xC l s0 a0 dC dI cA) (mo mr ml ms mv : Nat) (th wr gm gh gw bm bd bc ca : Int32) (p1 p2 p3 p4 : Int32) (sz : Nat) (ht : ¬ bm = 0) (hp : ¬ p1 = 0) (hc : p2 < 0 ∨ ¬ p2 < bc) : Met l yX6_put [Cond.code yX6_put cX6_put 6 (some .int)] ({ frames := 1, cells := 0, slots := 0, locals := 40 } : Room) (xPM s0 (dC, dI) [.ref mo, .int p1, .int p2, .int p3, .int p4] [] [(mo, .inr (6, [.int th, .ref mr, .ref ml, .int wr, .int gm, .int gh, .int gw, .int bm, .int bd, .int bc, .int ca, .ref ms, .ref mv]))] sz) (xQM (dC, dI) (va_A [(mo, .inr (6, [.int th, .ref mr, .ref ml, .int wr, .int gm, .int gh, .int gw, .int bm, .int bd, .int bc, .int ca, .ref ms, .ref mv]))] sz) (fun r w1 => r = some (.int 0) ∧ w1 = [(mo, .inr (6, [.int 2, .ref mr, .ref ml, .int wr, .int gm, .int gh, .int gw, .int bm, .int bd, .int bc, .int ca, .ref ms, .ref mv]))])) 0 0 (va_A [(mo, .inr (6, [.int th, .ref mr, .ref ml, .int wr, .int gm, .int gh, .int gw, .int bm, .int bd, .int bc, .int ca, .ref ms, .ref mv]))] sz) := by
  refine Met.ofW (cc := cX6_put) (maxL := 6) (ret := (some .int)) (by decide) rfl ?_
  intro p e s m args below meth c s₁ B hml hv
  obtain ⟨rfl, rfl, hb0, hPr, hP, hD0⟩ := hv
  have hx := B.exec
  have hb := B.bytes
  have hr := B.returns
  have hown : s.vm.findClass RX6 = some m.cls := findClass_of_methodNamed B.named
  have hlocks := B.notSynchronized
  have hK := h.K hb0
  have hS : va_S (va_A [(mo, .inr (6, [.int th, .ref mr, .ref ml, .int wr, .int gm, .int gh, .int gw, .int bm, .int bd, .int bc, .int ca, .ref ms, .ref mv]))] s.heap.size) s.heap s.heap [] := va_S.rf
  obtain ⟨A, hAe, hD, hA, hz, hRo, hwk, hnR⟩ := xM_start hb0 hPr hP hD0
  rw [hAe] at hS ⊢
  have hl := lv_entry ([.ref mo, .int p1, .int p2, .int p3, .int p4]) (n := 6) (Nat.le_of_ble_eq_true rfl)
  rw [lg_entry_eq]
  generalize (lg_sl ([.ref mo, .int p1, .int p2, .int p3, .int p4]) ++ List.replicate (6 - (lg_sl ([.ref mo, .int p1, .int p2, .int p3, .int p4])).length) Slot.unset).toArray = ls at hl ⊢
  have hl : lv_has ls 6 [(0, .ref mo), (1, .int p1), (2, .int p2), (3, .int p3), (4, .int p4)] := hl
  refine lv_aload_n hx hb dX6_put_0 rfl (lv_at hl 0 rfl) ?_
  refine lv_iconst (v := 0) hx hb dX6_put_1 (by decide) ?_
  refine va_put (D := (dC, dI)) (ci := 6) (v := .int 0) (ty := .int) (C := RX6) (T := TX6) (N := 13) hx hb (ly_6 h hb0) (fun _ z => z) tyX6 tyX6_ok nmX6 hown hK hP hD hS 0 rfl rfl 0 (by decide) (k_531 h hb0) (fun _ z => z) rfl (by decide +kernel) rfl rfl (Nat.le_of_ble_eq_true rfl) dX6_put_2 (fun H locs hP hD hS => ?_)
  have hP : va_P (dC, dI) vwCl [(mo, .inr (6, [.int 0, .ref mr, .ref ml, .int wr, .int gm, .int gh, .int gw, .int bm, .int bd, .int bc, .int ca, .ref ms, .ref mv]))] H := hP
  have hD : va_D A [(mo, .inr (6, [.int 0, .ref mr, .ref ml, .int wr, .int gm, .int gh, .int gw, .int bm, .int bd, .int bc, .int ca, .ref ms, .ref mv]))] := hD
  refine lv_iload_n hx hb dX6_put_5 rfl (lv_at hl 3 rfl) ?_
  refine lv_iconst (v := 3) hx hb dX6_put_6 (by decide) ?_
  refine lv_iand hx hb dX6_put_7 ?_
  refine lv_istore (lv' := [(5, .int (p3 &&& 3)), (0, .ref mo), (1, .int p1), (2, .int p2), (3, .int p3), (4, .int p4)]) hx hb dX6_put_8 hl (by decide) rfl (fun ls hl => ?_)
  refine lv_aload_n hx hb dX6_put_10 rfl (lv_at hl 1 rfl) ?_
  refine va_get (D := (dC, dI)) (ci := 6) (v := .int bm) (C := RX6) (T := TX6) (N := 13) hx hb (ly_6 h hb0) (fun _ z => z) hown hK hP 0 rfl rfl 7 (by decide) (k_538 h hb0) (fun _ z => z) rfl dX6_put_11 ?_
  refine lv_if_eq (tgt := 21) hx hb dX6_put_14 (by decide) (fun c_1 => ?_) (fun c_1 => ?_)
  · exact absurd c_1 ht
  · refine lv_iload_n hx hb dX6_put_17 rfl (lv_at hl 2 rfl) ?_
    refine lv_if_ne (tgt := 27) hx hb dX6_put_18 (by decide) (fun c_2 => ?_) (fun c_2 => ?_)
    · refine lv_iload_n hx hb dX6_put_27 rfl (lv_at hl 3 rfl) ?_
      refine lv_if_lt (tgt := 39) hx hb dX6_put_28 (by decide) (fun c_3 => ?_) (fun c_3 => ?_)
      · refine lv_aload_n hx hb dX6_put_39 rfl (lv_at hl 1 rfl) ?_
        refine lv_iconst (v := 2) hx hb dX6_put_40 (by decide) ?_
        refine xm_of (wc := [(mo, .inr (6, [.int 0, .ref mr, .ref ml, .int wr, .int gm, .int gh, .int gw, .int bm, .int bd, .int bc, .int ca, .ref ms, .ref mv]))]) (wo := []) (va_runV (As := [.int 2]) (rest := []) ⟨hx, hb, hml, hown, xTs⟩ (c_fails h mo mr ml ms mv 0 wr gm gh gw bm bd bc ca 2 _) ⟨xB (n := 1) (k_582 h hb0) (k_5 h hb0) (k_579 h hb0) (by decide) rfl rfl rfl (by decide) (by decide), (k_581 h hb0), (ks_3 h hb0)⟩ (xpMV (wr := []) (wc := [(mo, .inr (6, [.int 0, .ref mr, .ref ml, .int wr, .int gm, .int gh, .int gw, .int bm, .int bd, .int bc, .int ca, .ref ms, .ref mv]))]) hb0 hS hz (va_P.sub hP [] rfl) (va_P.sub hP [0] rfl) (va_D.sub (hwk _ hD) [0] rfl rfl) (va_recv hK hP (ci := 6) (q0 := 0) rfl rfl)) rfl rfl hl.1 rfl (lv_room (Nat.le_of_ble_eq_true rfl)) dX6_put_41 ⟨(Nat.le_of_ble_eq_true rfl), (Nat.le_of_ble_eq_true rfl)⟩) hP hD hS hA [0] [] rfl rfl rfl (by decide) (fun r w1 H locs hΦ hP hD hS => ?_)
        obtain ⟨rfl, rfl⟩ := hΦ
        have hP : va_P (dC, dI) vwCl [(mo, .inr (6, [.int 2, .ref mr, .ref ml, .int wr, .int gm, .int gh, .int gw, .int bm, .int bd, .int bc, .int ca, .ref ms, .ref mv]))] H := hP
        have hD : va_D A [(mo, .inr (6, [.int 2, .ref mr, .ref ml, .int wr, .int gm, .int gh, .int gw, .int bm, .int bd, .int bc, .int ca, .ref ms, .ref mv]))] := hD
        exact W.iret hx hb hr (fun t ht _ => ⟨(some (.int 0)), _, rfl, ⟨rfl, rfl⟩, by rw [ht]; exact hP, hD, hS.F ht⟩) (fun q z => hS.2.2 q z) dX6_put_44
      · refine lv_iload_n hx hb dX6_put_31 rfl (lv_at hl 3 rfl) ?_
        refine lv_aload_n hx hb dX6_put_32 rfl (lv_at hl 1 rfl) ?_
        refine va_get (D := (dC, dI)) (ci := 6) (v := .int bc) (C := RX6) (T := TX6) (N := 13) hx hb (ly_6 h hb0) (fun _ z => z) hown hK hP 0 rfl rfl 9 (by decide) (k_540 h hb0) (fun _ z => z) rfl dX6_put_33 ?_
        refine lv_icmp_lt (tgt := 45) hx hb dX6_put_36 (by decide) (fun c_4 => ?_) (fun c_4 => ?_)
        · exact absurd hc (fun z => z.elim c_3 (fun y => y c_4))
        · refine lv_aload_n hx hb dX6_put_39 rfl (lv_at hl 1 rfl) ?_
          refine lv_iconst (v := 2) hx hb dX6_put_40 (by decide) ?_
          refine xm_of (wc := [(mo, .inr (6, [.int 0, .ref mr, .ref ml, .int wr, .int gm, .int gh, .int gw, .int bm, .int bd, .int bc, .int ca, .ref ms, .ref mv]))]) (wo := []) (va_runV (As := [.int 2]) (rest := []) ⟨hx, hb, hml, hown, xTs⟩ (c_fails h mo mr ml ms mv 0 wr gm gh gw bm bd bc ca 2 _) ⟨xB (n := 1) (k_582 h hb0) (k_5 h hb0) (k_579 h hb0) (by decide) rfl rfl rfl (by decide) (by decide), (k_581 h hb0), (ks_3 h hb0)⟩ (xpMV (wr := []) (wc := [(mo, .inr (6, [.int 0, .ref mr, .ref ml, .int wr, .int gm, .int gh, .int gw, .int bm, .int bd, .int bc, .int ca, .ref ms, .ref mv]))]) hb0 hS hz (va_P.sub hP [] rfl) (va_P.sub hP [0] rfl) (va_D.sub (hwk _ hD) [0] rfl rfl) (va_recv hK hP (ci := 6) (q0 := 0) rfl rfl)) rfl rfl hl.1 rfl (lv_room (Nat.le_of_ble_eq_true rfl)) dX6_put_41 ⟨(Nat.le_of_ble_eq_true rfl), (Nat.le_of_ble_eq_true rfl)⟩) hP hD hS hA [0] [] rfl rfl rfl (by decide) (fun r w1 H locs hΦ hP hD hS => ?_)
          obtain ⟨rfl, rfl⟩ := hΦ
          have hP : va_P (dC, dI) vwCl [(mo, .inr (6, [.int 2, .ref mr, .ref ml, .int wr, .int gm, .int gh, .int gw, .int bm, .int bd, .int bc, .int ca, .ref ms, .ref mv]))] H := hP
          have hD : va_D A [(mo, .inr (6, [.int 2, .ref mr, .ref ml, .int wr, .int gm, .int gh, .int gw, .int bm, .int bd, .int bc, .int ca, .ref ms, .ref mv]))] := hD
          exact W.iret hx hb hr (fun t ht _ => ⟨(some (.int 0)), _, rfl, ⟨rfl, rfl⟩, by rw [ht]; exact hP, hD, hS.F ht⟩) (fun q z => hS.2.2 q z) dX6_put_44
    · exact absurd c_2 hp
set_option maxHeartbeats 4000000 in
set_option maxRecDepth 100000 in
theorem m_put_S {l : Launch} {s0 : State} {a0 : Array Value} {dC : Nat → ClassId} {dI : Nat → Nat → Nat} {cA : Nat → ClassId} (h : xC l s0 a0 dC dI cA) (mo mr ml ms mv : Nat) (th wr gm gh gw bm bd bc ca : Int32) (p1 p2 p3 p4 : Int32) (sz : Nat) (ht : ¬ bm = 0) (hp : ¬ p1 = 0) (h0 : ¬ p2 < 0) (h1 : p2 < bc) (hw : p3 &&& 3 = 1) (hd : ¬ bd = 0) : Met l yX6_put [Cond.code yX6_put cX6_put 6 (some .int)] ({ frames := 1, cells := 0, slots := 0, locals := 40 } : Room) (xPM s0 (dC, dI) [.ref mo, .int p1, .int p2, .int p3, .int p4] [] [(mo, .inr (6, [.int th, .ref mr, .ref ml, .int wr, .int gm, .int gh, .int gw, .int bm, .int bd, .int bc, .int ca, .ref ms, .ref mv]))] sz) (xQM (dC, dI) (va_A [(mo, .inr (6, [.int th, .ref mr, .ref ml, .int wr, .int gm, .int gh, .int gw, .int bm, .int bd, .int bc, .int ca, .ref ms, .ref mv]))] sz) (fun r w1 => r = some (.int 0) ∧ w1 = [(mo, .inr (6, [.int 3, .ref mr, .ref ml, .int wr, .int gm, .int gh, .int gw, .int bm, .int bd, .int bc, .int ca, .ref ms, .ref mv]))])) 0 0 (va_A [(mo, .inr (6, [.int th, .ref mr, .ref ml, .int wr, .int gm, .int gh, .int gw, .int bm, .int bd, .int bc, .int ca, .ref ms, .ref mv]))] sz) := by
  refine Met.ofW (cc := cX6_put) (maxL := 6) (ret := (some .int)) (by decide) rfl ?_
  intro p e s m args below meth c s₁ B hml hv
  obtain ⟨rfl, rfl, hb0, hPr, hP, hD0⟩ := hv
  have hx := B.exec
  have hb := B.bytes
  have hr := B.returns
  have hown : s.vm.findClass RX6 = some m.cls := findClass_of_methodNamed B.named
  have hlocks := B.notSynchronized
  have hK := h.K hb0
  have hS : va_S (va_A [(mo, .inr (6, [.int th, .ref mr, .ref ml, .int wr, .int gm, .int gh, .int gw, .int bm, .int bd, .int bc, .int ca, .ref ms, .ref mv]))] s.heap.size) s.heap s.heap [] := va_S.rf
  obtain ⟨A, hAe, hD, hA, hz, hRo, hwk, hnR⟩ := xM_start hb0 hPr hP hD0
  rw [hAe] at hS ⊢
  have hl := lv_entry ([.ref mo, .int p1, .int p2, .int p3, .int p4]) (n := 6) (Nat.le_of_ble_eq_true rfl)
  rw [lg_entry_eq]
  generalize (lg_sl ([.ref mo, .int p1, .int p2, .int p3, .int p4]) ++ List.replicate (6 - (lg_sl ([.ref mo, .int p1, .int p2, .int p3, .int p4])).length) Slot.unset).toArray = ls at hl ⊢
  have hl : lv_has ls 6 [(0, .ref mo), (1, .int p1), (2, .int p2), (3, .int p3), (4, .int p4)] := hl
  refine lv_aload_n hx hb dX6_put_0 rfl (lv_at hl 0 rfl) ?_
  refine lv_iconst (v := 0) hx hb dX6_put_1 (by decide) ?_
  refine va_put (D := (dC, dI)) (ci := 6) (v := .int 0) (ty := .int) (C := RX6) (T := TX6) (N := 13) hx hb (ly_6 h hb0) (fun _ z => z) tyX6 tyX6_ok nmX6 hown hK hP hD hS 0 rfl rfl 0 (by decide) (k_531 h hb0) (fun _ z => z) rfl (by decide +kernel) rfl rfl (Nat.le_of_ble_eq_true rfl) dX6_put_2 (fun H locs hP hD hS => ?_)
  have hP : va_P (dC, dI) vwCl [(mo, .inr (6, [.int 0, .ref mr, .ref ml, .int wr, .int gm, .int gh, .int gw, .int bm, .int bd, .int bc, .int ca, .ref ms, .ref mv]))] H := hP
  have hD : va_D A [(mo, .inr (6, [.int 0, .ref mr, .ref ml, .int wr, .int gm, .int gh, .int gw, .int bm, .int bd, .int bc, .int ca, .ref ms, .ref mv]))] := hD
  refine lv_iload_n hx hb dX6_put_5 rfl (lv_at hl 3 rfl) ?_
  refine lv_iconst (v := 3) hx hb dX6_put_6 (by decide) ?_
  refine lv_iand hx hb dX6_put_7 ?_
  rw [hw]
  refine lv_istore (lv' := [(5, .int 1), (0, .ref mo), (1, .int p1), (2, .int p2), (3, .int p3), (4, .int p4)]) hx hb dX6_put_8 hl (by decide) rfl (fun ls hl => ?_)
  refine lv_aload_n hx hb dX6_put_10 rfl (lv_at hl 1 rfl) ?_
  refine va_get (D := (dC, dI)) (ci := 6) (v := .int bm) (C := RX6) (T := TX6) (N := 13) hx hb (ly_6 h hb0) (fun _ z => z) hown hK hP 0 rfl rfl 7 (by decide) (k_538 h hb0) (fun _ z => z) rfl dX6_put_11 ?_
  refine lv_if_eq (tgt := 21) hx hb dX6_put_14 (by decide) (fun c_1 => ?_) (fun c_1 => ?_)
  · exact absurd c_1 ht
  · refine lv_iload_n hx hb dX6_put_17 rfl (lv_at hl 2 rfl) ?_
    refine lv_if_ne (tgt := 27) hx hb dX6_put_18 (by decide) (fun c_2 => ?_) (fun c_2 => ?_)
    · refine lv_iload_n hx hb dX6_put_27 rfl (lv_at hl 3 rfl) ?_
      refine lv_if_lt (tgt := 39) hx hb dX6_put_28 (by decide) (fun c_3 => ?_) (fun c_3 => ?_)
      · exact absurd c_3 h0
      · refine lv_iload_n hx hb dX6_put_31 rfl (lv_at hl 3 rfl) ?_
        refine lv_aload_n hx hb dX6_put_32 rfl (lv_at hl 1 rfl) ?_
        refine va_get (D := (dC, dI)) (ci := 6) (v := .int bc) (C := RX6) (T := TX6) (N := 13) hx hb (ly_6 h hb0) (fun _ z => z) hown hK hP 0 rfl rfl 9 (by decide) (k_540 h hb0) (fun _ z => z) rfl dX6_put_33 ?_
        refine lv_icmp_lt (tgt := 45) hx hb dX6_put_36 (by decide) (fun c_4 => ?_) (fun c_4 => ?_)
        · refine lv_iload hx hb dX6_put_45 (lv_at hl 0 rfl) ?_
          refine lv_iconst (v := 1) hx hb dX6_put_47 (by decide) ?_
          refine lv_icmp_ne (tgt := 64) hx hb dX6_put_48 (by decide) (fun c_5 => ?_) (fun c_5 => ?_)
          · exact absurd rfl c_5
          · refine lv_aload_n hx hb dX6_put_51 rfl (lv_at hl 1 rfl) ?_
            refine va_get (D := (dC, dI)) (ci := 6) (v := .int bd) (C := RX6) (T := TX6) (N := 13) hx hb (ly_6 h hb0) (fun _ z => z) hown hK hP 0 rfl rfl 8 (by decide) (k_539 h hb0) (fun _ z => z) rfl dX6_put_52 ?_
            refine lv_if_eq (tgt := 64) hx hb dX6_put_55 (by decide) (fun c_6 => ?_) (fun c_6 => ?_)
            · exact absurd c_6 hd
            · refine lv_aload_n hx hb dX6_put_58 rfl (lv_at hl 1 rfl) ?_
              refine lv_iconst (v := 3) hx hb dX6_put_59 (by decide) ?_
              refine xm_of (wc := [(mo, .inr (6, [.int 0, .ref mr, .ref ml, .int wr, .int gm, .int gh, .int gw, .int bm, .int bd, .int bc, .int ca, .ref ms, .ref mv]))]) (wo := []) (va_runV (As := [.int 3]) (rest := []) ⟨hx, hb, hml, hown, xTs⟩ (c_fails h mo mr ml ms mv 0 wr gm gh gw bm bd bc ca 3 _) ⟨xB (n := 1) (k_582 h hb0) (k_5 h hb0) (k_579 h hb0) (by decide) rfl rfl rfl (by decide) (by decide), (k_581 h hb0), (ks_3 h hb0)⟩ (xpMV (wr := []) (wc := [(mo, .inr (6, [.int 0, .ref mr, .ref ml, .int wr, .int gm, .int gh, .int gw, .int bm, .int bd, .int bc, .int ca, .ref ms, .ref mv]))]) hb0 hS hz (va_P.sub hP [] rfl) (va_P.sub hP [0] rfl) (va_D.sub (hwk _ hD) [0] rfl rfl) (va_recv hK hP (ci := 6) (q0 := 0) rfl rfl)) rfl rfl hl.1 rfl (lv_room (Nat.le_of_ble_eq_true rfl)) dX6_put_60 ⟨(Nat.le_of_ble_eq_true rfl), (Nat.le_of_ble_eq_true rfl)⟩) hP hD hS hA [0] [] rfl rfl rfl (by decide) (fun r w1 H locs hΦ hP hD hS => ?_)
              obtain ⟨rfl, rfl⟩ := hΦ
              have hP : va_P (dC, dI) vwCl [(mo, .inr (6, [.int 3, .ref mr, .ref ml, .int wr, .int gm, .int gh, .int gw, .int bm, .int bd, .int bc, .int ca, .ref ms, .ref mv]))] H := hP
              have hD : va_D A [(mo, .inr (6, [.int 3, .ref mr, .ref ml, .int wr, .int gm, .int gh, .int gw, .int bm, .int bd, .int bc, .int ca, .ref ms, .ref mv]))] := hD
              exact W.iret hx hb hr (fun t ht _ => ⟨(some (.int 0)), _, rfl, ⟨rfl, rfl⟩, by rw [ht]; exact hP, hD, hS.F ht⟩) (fun q z => hS.2.2 q z) dX6_put_63
        · exact absurd h1 c_4
    · exact absurd c_2 hp
set_option maxHeartbeats 4000000 in
set_option maxRecDepth 100000 in
theorem c_isThere_N {l : Launch} {s0 : State} {a0 : Array Value} {dC : Nat → ClassId} {dI : Nat → Nat → Nat} {cA : Nat → ClassId} (h : xC l s0 a0 dC dI cA) (mo mr ml ms mv : Nat) (th wr gm gh gw bm bd bc ca : Int32) (so : Nat → Int32) (p1 : Int32) (sz : Nat) (ht : bm = 0) : Met l yX6_isThere [Cond.code yX6_isThere cX6_isThere 2 (some .boolean)] ({ frames := 0, cells := 0, slots := 0, locals := 0 } : Room) (xPM s0 (dC, dI) [.ref mo, .int p1] [(ms, .inl (cA 0, 20, .inl so))] [(mo, .inr (6, [.int th, .ref mr, .ref ml, .int wr, .int gm, .int gh, .int gw, .int bm, .int bd, .int bc, .int ca, .ref ms, .ref mv]))] sz) (xQM (dC, dI) (va_A [(mo, .inr (6, [.int th, .ref mr, .ref ml, .int wr, .int gm, .int gh, .int gw, .int bm, .int bd, .int bc, .int ca, .ref ms, .ref mv]))] sz) (fun r w1 => r = some (.int 0) ∧ w1 = [(mo, .inr (6, [.int 1, .ref mr, .ref ml, .int wr, .int gm, .int gh, .int gw, .int bm, .int bd, .int bc, .int ca, .ref ms, .ref mv]))])) 0 0 (va_A [(mo, .inr (6, [.int th, .ref mr, .ref ml, .int wr, .int gm, .int gh, .int gw, .int bm, .int bd, .int bc, .int ca, .ref ms, .ref mv]))] sz) := by
  refine Met.ofW (cc := cX6_isThere) (maxL := 2) (ret := (some .boolean)) (by decide) rfl ?_
  intro p e s m args below meth c s₁ B hml hv
  obtain ⟨rfl, rfl, hb0, hPr, hP, hD0⟩ := hv
  have hx := B.exec
  have hb := B.bytes
  have hr := B.returns
  have hown : s.vm.findClass RX6 = some m.cls := findClass_of_methodNamed B.named
  have hlocks := B.notSynchronized
  have hK := h.K hb0
  have hS : va_S (va_A [(mo, .inr (6, [.int th, .ref mr, .ref ml, .int wr, .int gm, .int gh, .int gw, .int bm, .int bd, .int bc, .int ca, .ref ms, .ref mv]))] s.heap.size) s.heap s.heap [] := va_S.rf
  obtain ⟨A, hAe, hD, hA, hz, hRo, hwk, hnR⟩ := xM_start hb0 hPr hP hD0
  rw [hAe] at hS ⊢
  have hl := lv_entry ([.ref mo, .int p1]) (n := 2) (Nat.le_of_ble_eq_true rfl)
  rw [lg_entry_eq]
  generalize (lg_sl ([.ref mo, .int p1]) ++ List.replicate (2 - (lg_sl ([.ref mo, .int p1])).length) Slot.unset).toArray = ls at hl ⊢
  have hl : lv_has ls 2 [(0, .ref mo), (1, .int p1)] := hl
  refine lv_aload_n hx hb dX6_isThere_0 rfl (lv_at hl 0 rfl) ?_
  refine lv_aload_n hx hb dX6_isThere_1 rfl (lv_at hl 0 rfl) ?_
  refine va_get (D := (dC, dI)) (ci := 6) (v := .int bm) (C := RX6) (T := TX6) (N := 13) hx hb (ly_6 h hb0) (fun _ z => z) hown hK hP 0 rfl rfl 7 (by decide) (k_538 h hb0) (fun _ z => z) rfl dX6_isThere_2 ?_
  refine lv_if_ne (tgt := 12) hx hb dX6_isThere_5 (by decide) (fun c_1 => ?_) (fun c_1 => ?_)
  · exact absurd ht c_1
  · refine lv_iconst (v := 1) hx hb dX6_isThere_8 (by decide) ?_
    refine lv_goto (tgt := 42) hx hb dX6_isThere_9 (by decide) ?_
    refine va_put (D := (dC, dI)) (ci := 6) (v := .int 1) (ty := .int) (C := RX6) (T := TX6) (N := 13) hx hb (ly_6 h hb0) (fun _ z => z) tyX6 tyX6_ok nmX6 hown hK hP hD hS 0 rfl rfl 0 (by decide) (k_531 h hb0) (fun _ z => z) rfl (by decide +kernel) rfl rfl (Nat.le_of_ble_eq_true rfl) dX6_isThere_42 (fun H locs hP hD hS => ?_)
    have hP : va_P (dC, dI) vwCl [(mo, .inr (6, [.int 1, .ref mr, .ref ml, .int wr, .int gm, .int gh, .int gw, .int bm, .int bd, .int bc, .int ca, .ref ms, .ref mv]))] H := hP
    have hD : va_D A [(mo, .inr (6, [.int 1, .ref mr, .ref ml, .int wr, .int gm, .int gh, .int gw, .int bm, .int bd, .int bc, .int ca, .ref ms, .ref mv]))] := hD
    refine lv_aload_n hx hb dX6_isThere_45 rfl (lv_at hl 0 rfl) ?_
    refine va_get (D := (dC, dI)) (ci := 6) (v := .int 1) (C := RX6) (T := TX6) (N := 13) hx hb (ly_6 h hb0) (fun _ z => z) hown hK hP 0 rfl rfl 0 (by decide) (k_531 h hb0) (fun _ z => z) rfl dX6_isThere_46 ?_
    refine lv_if_ne (tgt := 56) hx hb dX6_isThere_49 (by decide) (fun c_2 => ?_) (fun c_2 => ?_)
    · refine lv_iconst (v := 0) hx hb dX6_isThere_56 (by decide) ?_
      exact W.zret hx hb hr rfl (fun t ht _ => ⟨(some (.int 0)), _, rfl, ⟨rfl, rfl⟩, by rw [ht]; exact hP, hD, hS.F ht⟩) (fun q z => hS.2.2 q z) dX6_isThere_57
    · exact absurd c_2 (by decide)
set_option maxHeartbeats 4000000 in
set_option maxRecDepth 100000 in
theorem c_isThere_A {l : Launch} {s0 : State} {a0 : Array Value} {dC : Nat → ClassId} {dI : Nat → Nat → Nat} {cA : Nat → ClassId} (h : xC l s0 a0 dC dI cA) (mo mr ml ms mv : Nat) (th wr gm gh gw bm bd bc ca : Int32) (so : Nat → Int32) (p1 : Int32) (sz : Nat) (ht : ¬ bm = 0) (hc : p1 < 0 ∨ ¬ p1 < bc) : Met l yX6_isThere [Cond.code yX6_isThere cX6_isThere 2 (some .boolean)] ({ frames := 0, cells := 0, slots := 0, locals := 0 } : Room) (xPM s0 (dC, dI) [.ref mo, .int p1] [(ms, .inl (cA 0, 20, .inl so))] [(mo, .inr (6, [.int th, .ref mr, .ref ml, .int wr, .int gm, .int gh, .int gw, .int bm, .int bd, .int bc, .int ca, .ref ms, .ref mv]))] sz) (xQM (dC, dI) (va_A [(mo, .inr (6, [.int th, .ref mr, .ref ml, .int wr, .int gm, .int gh, .int gw, .int bm, .int bd, .int bc, .int ca, .ref ms, .ref mv]))] sz) (fun r w1 => r = some (.int 0) ∧ w1 = [(mo, .inr (6, [.int 2, .ref mr, .ref ml, .int wr, .int gm, .int gh, .int gw, .int bm, .int bd, .int bc, .int ca, .ref ms, .ref mv]))])) 0 0 (va_A [(mo, .inr (6, [.int th, .ref mr, .ref ml, .int wr, .int gm, .int gh, .int gw, .int bm, .int bd, .int bc, .int ca, .ref ms, .ref mv]))] sz) := by
  refine Met.ofW (cc := cX6_isThere) (maxL := 2) (ret := (some .boolean)) (by decide) rfl ?_
  intro p e s m args below meth c s₁ B hml hv
  obtain ⟨rfl, rfl, hb0, hPr, hP, hD0⟩ := hv
  have hx := B.exec
  have hb := B.bytes
  have hr := B.returns
  have hown : s.vm.findClass RX6 = some m.cls := findClass_of_methodNamed B.named
  have hlocks := B.notSynchronized
  have hK := h.K hb0
  have hS : va_S (va_A [(mo, .inr (6, [.int th, .ref mr, .ref ml, .int wr, .int gm, .int gh, .int gw, .int bm, .int bd, .int bc, .int ca, .ref ms, .ref mv]))] s.heap.size) s.heap s.heap [] := va_S.rf
  obtain ⟨A, hAe, hD, hA, hz, hRo, hwk, hnR⟩ := xM_start hb0 hPr hP hD0
  rw [hAe] at hS ⊢
  have hl := lv_entry ([.ref mo, .int p1]) (n := 2) (Nat.le_of_ble_eq_true rfl)
  rw [lg_entry_eq]
  generalize (lg_sl ([.ref mo, .int p1]) ++ List.replicate (2 - (lg_sl ([.ref mo, .int p1])).length) Slot.unset).toArray = ls at hl ⊢
  have hl : lv_has ls 2 [(0, .ref mo), (1, .int p1)] := hl
  refine lv_aload_n hx hb dX6_isThere_0 rfl (lv_at hl 0 rfl) ?_
  refine lv_aload_n hx hb dX6_isThere_1 rfl (lv_at hl 0 rfl) ?_
  refine va_get (D := (dC, dI)) (ci := 6) (v := .int bm) (C := RX6) (T := TX6) (N := 13) hx hb (ly_6 h hb0) (fun _ z => z) hown hK hP 0 rfl rfl 7 (by decide) (k_538 h hb0) (fun _ z => z) rfl dX6_isThere_2 ?_
  refine lv_if_ne (tgt := 12) hx hb dX6_isThere_5 (by decide) (fun c_1 => ?_) (fun c_1 => ?_)
  · refine lv_iload_n hx hb dX6_isThere_12 rfl (lv_at hl 1 rfl) ?_
    refine lv_if_lt (tgt := 24) hx hb dX6_isThere_13 (by decide) (fun c_2 => ?_) (fun c_2 => ?_)
    · refine lv_iconst (v := 2) hx hb dX6_isThere_24 (by decide) ?_
      refine lv_goto (tgt := 42) hx hb dX6_isThere_25 (by decide) ?_
      refine va_put (D := (dC, dI)) (ci := 6) (v := .int 2) (ty := .int) (C := RX6) (T := TX6) (N := 13) hx hb (ly_6 h hb0) (fun _ z => z) tyX6 tyX6_ok nmX6 hown hK hP hD hS 0 rfl rfl 0 (by decide) (k_531 h hb0) (fun _ z => z) rfl (by decide +kernel) rfl rfl (Nat.le_of_ble_eq_true rfl) dX6_isThere_42 (fun H locs hP hD hS => ?_)
      have hP : va_P (dC, dI) vwCl [(mo, .inr (6, [.int 2, .ref mr, .ref ml, .int wr, .int gm, .int gh, .int gw, .int bm, .int bd, .int bc, .int ca, .ref ms, .ref mv]))] H := hP
      have hD : va_D A [(mo, .inr (6, [.int 2, .ref mr, .ref ml, .int wr, .int gm, .int gh, .int gw, .int bm, .int bd, .int bc, .int ca, .ref ms, .ref mv]))] := hD
      refine lv_aload_n hx hb dX6_isThere_45 rfl (lv_at hl 0 rfl) ?_
      refine va_get (D := (dC, dI)) (ci := 6) (v := .int 2) (C := RX6) (T := TX6) (N := 13) hx hb (ly_6 h hb0) (fun _ z => z) hown hK hP 0 rfl rfl 0 (by decide) (k_531 h hb0) (fun _ z => z) rfl dX6_isThere_46 ?_
      refine lv_if_ne (tgt := 56) hx hb dX6_isThere_49 (by decide) (fun c_3 => ?_) (fun c_3 => ?_)
      · refine lv_iconst (v := 0) hx hb dX6_isThere_56 (by decide) ?_
        exact W.zret hx hb hr rfl (fun t ht _ => ⟨(some (.int 0)), _, rfl, ⟨rfl, rfl⟩, by rw [ht]; exact hP, hD, hS.F ht⟩) (fun q z => hS.2.2 q z) dX6_isThere_57
      · exact absurd c_3 (by decide)
    · refine lv_iload_n hx hb dX6_isThere_16 rfl (lv_at hl 1 rfl) ?_
      refine lv_aload_n hx hb dX6_isThere_17 rfl (lv_at hl 0 rfl) ?_
      refine va_get (D := (dC, dI)) (ci := 6) (v := .int bc) (C := RX6) (T := TX6) (N := 13) hx hb (ly_6 h hb0) (fun _ z => z) hown hK hP 0 rfl rfl 9 (by decide) (k_540 h hb0) (fun _ z => z) rfl dX6_isThere_18 ?_
      refine lv_icmp_lt (tgt := 28) hx hb dX6_isThere_21 (by decide) (fun c_4 => ?_) (fun c_4 => ?_)
      · exact absurd hc (fun z => z.elim c_2 (fun y => y c_4))
      · refine lv_iconst (v := 2) hx hb dX6_isThere_24 (by decide) ?_
        refine lv_goto (tgt := 42) hx hb dX6_isThere_25 (by decide) ?_
        refine va_put (D := (dC, dI)) (ci := 6) (v := .int 2) (ty := .int) (C := RX6) (T := TX6) (N := 13) hx hb (ly_6 h hb0) (fun _ z => z) tyX6 tyX6_ok nmX6 hown hK hP hD hS 0 rfl rfl 0 (by decide) (k_531 h hb0) (fun _ z => z) rfl (by decide +kernel) rfl rfl (Nat.le_of_ble_eq_true rfl) dX6_isThere_42 (fun H locs hP hD hS => ?_)
        have hP : va_P (dC, dI) vwCl [(mo, .inr (6, [.int 2, .ref mr, .ref ml, .int wr, .int gm, .int gh, .int gw, .int bm, .int bd, .int bc, .int ca, .ref ms, .ref mv]))] H := hP
        have hD : va_D A [(mo, .inr (6, [.int 2, .ref mr, .ref ml, .int wr, .int gm, .int gh, .int gw, .int bm, .int bd, .int bc, .int ca, .ref ms, .ref mv]))] := hD
        refine lv_aload_n hx hb dX6_isThere_45 rfl (lv_at hl 0 rfl) ?_
        refine va_get (D := (dC, dI)) (ci := 6) (v := .int 2) (C := RX6) (T := TX6) (N := 13) hx hb (ly_6 h hb0) (fun _ z => z) hown hK hP 0 rfl rfl 0 (by decide) (k_531 h hb0) (fun _ z => z) rfl dX6_isThere_46 ?_
        refine lv_if_ne (tgt := 56) hx hb dX6_isThere_49 (by decide) (fun c_5 => ?_) (fun c_5 => ?_)
        · refine lv_iconst (v := 0) hx hb dX6_isThere_56 (by decide) ?_
          exact W.zret hx hb hr rfl (fun t ht _ => ⟨(some (.int 0)), _, rfl, ⟨rfl, rfl⟩, by rw [ht]; exact hP, hD, hS.F ht⟩) (fun q z => hS.2.2 q z) dX6_isThere_57
        · exact absurd c_5 (by decide)
  · exact absurd c_1 ht
set_option maxHeartbeats 4000000 in
set_option maxRecDepth 100000 in
theorem c_isThere_2 {l : Launch} {s0 : State} {a0 : Array Value} {dC : Nat → ClassId} {dI : Nat → Nat → Nat} {cA : Nat → ClassId} (h : xC l s0 a0 dC dI cA) (mo mr ml ms mv : Nat) (th wr gm gh gw bm bd bc ca : Int32) (so : Nat → Int32) (p1 : Int32) (sz : Nat) (ht : ¬ bm = 0) (h0 : ¬ p1 < 0) (h1 : p1 < bc) (hi : vp_in p1 20) (hs : so p1.toNatClampNeg = 0) : Met l yX6_isThere [Cond.code yX6_isThere cX6_isThere 2 (some .boolean)] ({ frames := 0, cells := 0, slots := 0, locals := 0 } : Room) (xPM s0 (dC, dI) [.ref mo, .int p1] [(ms, .inl (cA 0, 20, .inl so))] [(mo, .inr (6, [.int th, .ref mr, .ref ml, .int wr, .int gm, .int gh, .int gw, .int bm, .int bd, .int bc, .int ca, .ref ms, .ref mv]))] sz) (xQM (dC, dI) (va_A [(mo, .inr (6, [.int th, .ref mr, .ref ml, .int wr, .int gm, .int gh, .int gw, .int bm, .int bd, .int bc, .int ca, .ref ms, .ref mv]))] sz) (fun r w1 => r = some (.int 0) ∧ w1 = [(mo, .inr (6, [.int 1, .ref mr, .ref ml, .int wr, .int gm, .int gh, .int gw, .int bm, .int bd, .int bc, .int ca, .ref ms, .ref mv]))])) 0 0 (va_A [(mo, .inr (6, [.int th, .ref mr, .ref ml, .int wr, .int gm, .int gh, .int gw, .int bm, .int bd, .int bc, .int ca, .ref ms, .ref mv]))] sz) := by
  refine Met.ofW (cc := cX6_isThere) (maxL := 2) (ret := (some .boolean)) (by decide) rfl ?_
  intro p e s m args below meth c s₁ B hml hv
  obtain ⟨rfl, rfl, hb0, hPr, hP, hD0⟩ := hv
  have hx := B.exec
  have hb := B.bytes
  have hr := B.returns
  have hown : s.vm.findClass RX6 = some m.cls := findClass_of_methodNamed B.named
  have hlocks := B.notSynchronized
  have hK := h.K hb0
  have hS : va_S (va_A [(mo, .inr (6, [.int th, .ref mr, .ref ml, .int wr, .int gm, .int gh, .int gw, .int bm, .int bd, .int bc, .int ca, .ref ms, .ref mv]))] s.heap.size) s.heap s.heap [] := va_S.rf
  obtain ⟨A, hAe, hD, hA, hz, hRo, hwk, hnR⟩ := xM_start hb0 hPr hP hD0
  rw [hAe] at hS ⊢
  have hl := lv_entry ([.ref mo, .int p1]) (n := 2) (Nat.le_of_ble_eq_true rfl)
  rw [lg_entry_eq]
  generalize (lg_sl ([.ref mo, .int p1]) ++ List.replicate (2 - (lg_sl ([.ref mo, .int p1])).length) Slot.unset).toArray = ls at hl ⊢
  have hl : lv_has ls 2 [(0, .ref mo), (1, .int p1)] := hl
  refine lv_aload_n hx hb dX6_isThere_0 rfl (lv_at hl 0 rfl) ?_
  refine lv_aload_n hx hb dX6_isThere_1 rfl (lv_at hl 0 rfl) ?_
  refine va_get (D := (dC, dI)) (ci := 6) (v := .int bm) (C := RX6) (T := TX6) (N := 13) hx hb (ly_6 h hb0) (fun _ z => z) hown hK hP 0 rfl rfl 7 (by decide) (k_538 h hb0) (fun _ z => z) rfl dX6_isThere_2 ?_
  refine lv_if_ne (tgt := 12) hx hb dX6_isThere_5 (by decide) (fun c_1 => ?_) (fun c_1 => ?_)
  · refine lv_iload_n hx hb dX6_isThere_12 rfl (lv_at hl 1 rfl) ?_
    refine lv_if_lt (tgt := 24) hx hb dX6_isThere_13 (by decide) (fun c_2 => ?_) (fun c_2 => ?_)
    · exact absurd c_2 h0
    · refine lv_iload_n hx hb dX6_isThere_16 rfl (lv_at hl 1 rfl) ?_
      refine lv_aload_n hx hb dX6_isThere_17 rfl (lv_at hl 0 rfl) ?_
      refine va_get (D := (dC, dI)) (ci := 6) (v := .int bc) (C := RX6) (T := TX6) (N := 13) hx hb (ly_6 h hb0) (fun _ z => z) hown hK hP 0 rfl rfl 9 (by decide) (k_540 h hb0) (fun _ z => z) rfl dX6_isThere_18 ?_
      refine lv_icmp_lt (tgt := 28) hx hb dX6_isThere_21 (by decide) (fun c_3 => ?_) (fun c_3 => ?_)
      · refine lv_aload_n hx hb dX6_isThere_28 rfl (lv_at hl 0 rfl) ?_
        refine va_get (D := (dC, dI)) (ci := 6) (v := .ref ms) (C := RX6) (T := TX6) (N := 13) hx hb (ly_6 h hb0) (fun _ z => z) hown hK hP 0 rfl rfl 11 (by decide) (k_542 h hb0) (fun _ z => z) rfl dX6_isThere_29 ?_
        refine lv_iload_n hx hb dX6_isThere_32 rfl (lv_at hl 1 rfl) ?_
        refine va_iald hx hb hK (hRo _ _ hS) 0 0 rfl rfl hi dX6_isThere_33 ?_
        refine lv_if_ne (tgt := 41) hx hb dX6_isThere_34 (by decide) (fun c_4 => ?_) (fun c_4 => ?_)
        · exact absurd hs c_4
        · refine lv_iconst (v := 1) hx hb dX6_isThere_37 (by decide) ?_
          refine lv_goto (tgt := 42) hx hb dX6_isThere_38 (by decide) ?_
          refine va_put (D := (dC, dI)) (ci := 6) (v := .int 1) (ty := .int) (C := RX6) (T := TX6) (N := 13) hx hb (ly_6 h hb0) (fun _ z => z) tyX6 tyX6_ok nmX6 hown hK hP hD hS 0 rfl rfl 0 (by decide) (k_531 h hb0) (fun _ z => z) rfl (by decide +kernel) rfl rfl (Nat.le_of_ble_eq_true rfl) dX6_isThere_42 (fun H locs hP hD hS => ?_)
          have hP : va_P (dC, dI) vwCl [(mo, .inr (6, [.int 1, .ref mr, .ref ml, .int wr, .int gm, .int gh, .int gw, .int bm, .int bd, .int bc, .int ca, .ref ms, .ref mv]))] H := hP
          have hD : va_D A [(mo, .inr (6, [.int 1, .ref mr, .ref ml, .int wr, .int gm, .int gh, .int gw, .int bm, .int bd, .int bc, .int ca, .ref ms, .ref mv]))] := hD
          refine lv_aload_n hx hb dX6_isThere_45 rfl (lv_at hl 0 rfl) ?_
          refine va_get (D := (dC, dI)) (ci := 6) (v := .int 1) (C := RX6) (T := TX6) (N := 13) hx hb (ly_6 h hb0) (fun _ z => z) hown hK hP 0 rfl rfl 0 (by decide) (k_531 h hb0) (fun _ z => z) rfl dX6_isThere_46 ?_
          refine lv_if_ne (tgt := 56) hx hb dX6_isThere_49 (by decide) (fun c_5 => ?_) (fun c_5 => ?_)
          · refine lv_iconst (v := 0) hx hb dX6_isThere_56 (by decide) ?_
            exact W.zret hx hb hr rfl (fun t ht _ => ⟨(some (.int 0)), _, rfl, ⟨rfl, rfl⟩, by rw [ht]; exact hP, hD, hS.F ht⟩) (fun q z => hS.2.2 q z) dX6_isThere_57
          · exact absurd c_5 (by decide)
      · exact absurd h1 c_3
  · exact absurd c_1 ht
set_option maxHeartbeats 4000000 in
set_option maxRecDepth 100000 in
theorem c_isThere_c {l : Launch} {s0 : State} {a0 : Array Value} {dC : Nat → ClassId} {dI : Nat → Nat → Nat} {cA : Nat → ClassId} (h : xC l s0 a0 dC dI cA) (mo mr ml ms mv : Nat) (th wr gm gh gw bm bd bc ca : Int32) (so : Nat → Int32) (p1 : Int32) (sz : Nat) (ht : ¬ bm = 0) (h0 : ¬ p1 < 0) (h1 : p1 < bc) (hi : vp_in p1 20) (hs : ¬ so p1.toNatClampNeg = 0) : Met l yX6_isThere [Cond.code yX6_isThere cX6_isThere 2 (some .boolean)] ({ frames := 0, cells := 0, slots := 0, locals := 0 } : Room) (xPM s0 (dC, dI) [.ref mo, .int p1] [(ms, .inl (cA 0, 20, .inl so))] [(mo, .inr (6, [.int th, .ref mr, .ref ml, .int wr, .int gm, .int gh, .int gw, .int bm, .int bd, .int bc, .int ca, .ref ms, .ref mv]))] sz) (xQM (dC, dI) (va_A [(mo, .inr (6, [.int th, .ref mr, .ref ml, .int wr, .int gm, .int gh, .int gw, .int bm, .int bd, .int bc, .int ca, .ref ms, .ref mv]))] sz) (fun r w1 => r = some (.int 1) ∧ w1 = [(mo, .inr (6, [.int 0, .ref mr, .ref ml, .int wr, .int gm, .int gh, .int gw, .int bm, .int bd, .int bc, .int ca, .ref ms, .ref mv]))])) 0 0 (va_A [(mo, .inr (6, [.int th, .ref mr, .ref ml, .int wr, .int gm, .int gh, .int gw, .int bm, .int bd, .int bc, .int ca, .ref ms, .ref mv]))] sz) := by
  refine Met.ofW (cc := cX6_isThere) (maxL := 2) (ret := (some .boolean)) (by decide) rfl ?_
  intro p e s m args below meth c s₁ B hml hv
  obtain ⟨rfl, rfl, hb0, hPr, hP, hD0⟩ := hv
  have hx := B.exec
  have hb := B.bytes
  have hr := B.returns
  have hown : s.vm.findClass RX6 = some m.cls := findClass_of_methodNamed B.named
  have hlocks := B.notSynchronized
  have hK := h.K hb0
  have hS : va_S (va_A [(mo, .inr (6, [.int th, .ref mr, .ref ml, .int wr, .int gm, .int gh, .int gw, .int bm, .int bd, .int bc, .int ca, .ref ms, .ref mv]))] s.heap.size) s.heap s.heap [] := va_S.rf
  obtain ⟨A, hAe, hD, hA, hz, hRo, hwk, hnR⟩ := xM_start hb0 hPr hP hD0
  rw [hAe] at hS ⊢
  have hl := lv_entry ([.ref mo, .int p1]) (n := 2) (Nat.le_of_ble_eq_true rfl)
  rw [lg_entry_eq]
  generalize (lg_sl ([.ref mo, .int p1]) ++ List.replicate (2 - (lg_sl ([.ref mo, .int p1])).length) Slot.unset).toArray = ls at hl ⊢
  have hl : lv_has ls 2 [(0, .ref mo), (1, .int p1)] := hl
  refine lv_aload_n hx hb dX6_isThere_0 rfl (lv_at hl 0 rfl) ?_
  refine lv_aload_n hx hb dX6_isThere_1 rfl (lv_at hl 0 rfl) ?_
  refine va_get (D := (dC, dI)) (ci := 6) (v := .int bm) (C := RX6) (T := TX6) (N := 13) hx hb (ly_6 h hb0) (fun _ z => z) hown hK hP 0 rfl rfl 7 (by decide) (k_538 h hb0) (fun _ z => z) rfl dX6_isThere_2 ?_
  refine lv_if_ne (tgt := 12) hx hb dX6_isThere_5 (by decide) (fun c_1 => ?_) (fun c_1 => ?_)
  · refine lv_iload_n hx hb dX6_isThere_12 rfl (lv_at hl 1 rfl) ?_
    refine lv_if_lt (tgt := 24) hx hb dX6_isThere_13 (by decide) (fun c_2 => ?_) (fun c_2 => ?_)
    · exact absurd c_2 h0
    · refine lv_iload_n hx hb dX6_isThere_16 rfl (lv_at hl 1 rfl) ?_
      refine lv_aload_n hx hb dX6_isThere_17 rfl (lv_at hl 0 rfl) ?_
      refine va_get (D := (dC, dI)) (ci := 6) (v := .int bc) (C := RX6) (T := TX6) (N := 13) hx hb (ly_6 h hb0) (fun _ z => z) hown hK hP 0 rfl rfl 9 (by decide) (k_540 h hb0) (fun _ z => z) rfl dX6_isThere_18 ?_
      refine lv_icmp_lt (tgt := 28) hx hb dX6_isThere_21 (by decide) (fun c_3 => ?_) (fun c_3 => ?_)
      · refine lv_aload_n hx hb dX6_isThere_28 rfl (lv_at hl 0 rfl) ?_
        refine va_get (D := (dC, dI)) (ci := 6) (v := .ref ms) (C := RX6) (T := TX6) (N := 13) hx hb (ly_6 h hb0) (fun _ z => z) hown hK hP 0 rfl rfl 11 (by decide) (k_542 h hb0) (fun _ z => z) rfl dX6_isThere_29 ?_
        refine lv_iload_n hx hb dX6_isThere_32 rfl (lv_at hl 1 rfl) ?_
        refine va_iald hx hb hK (hRo _ _ hS) 0 0 rfl rfl hi dX6_isThere_33 ?_
        refine lv_if_ne (tgt := 41) hx hb dX6_isThere_34 (by decide) (fun c_4 => ?_) (fun c_4 => ?_)
        · refine lv_iconst (v := 0) hx hb dX6_isThere_41 (by decide) ?_
          refine va_put (D := (dC, dI)) (ci := 6) (v := .int 0) (ty := .int) (C := RX6) (T := TX6) (N := 13) hx hb (ly_6 h hb0) (fun _ z => z) tyX6 tyX6_ok nmX6 hown hK hP hD hS 0 rfl rfl 0 (by decide) (k_531 h hb0) (fun _ z => z) rfl (by decide +kernel) rfl rfl (Nat.le_of_ble_eq_true rfl) dX6_isThere_42 (fun H locs hP hD hS => ?_)
          have hP : va_P (dC, dI) vwCl [(mo, .inr (6, [.int 0, .ref mr, .ref ml, .int wr, .int gm, .int gh, .int gw, .int bm, .int bd, .int bc, .int ca, .ref ms, .ref mv]))] H := hP
          have hD : va_D A [(mo, .inr (6, [.int 0, .ref mr, .ref ml, .int wr, .int gm, .int gh, .int gw, .int bm, .int bd, .int bc, .int ca, .ref ms, .ref mv]))] := hD
          refine lv_aload_n hx hb dX6_isThere_45 rfl (lv_at hl 0 rfl) ?_
          refine va_get (D := (dC, dI)) (ci := 6) (v := .int 0) (C := RX6) (T := TX6) (N := 13) hx hb (ly_6 h hb0) (fun _ z => z) hown hK hP 0 rfl rfl 0 (by decide) (k_531 h hb0) (fun _ z => z) rfl dX6_isThere_46 ?_
          refine lv_if_ne (tgt := 56) hx hb dX6_isThere_49 (by decide) (fun c_5 => ?_) (fun c_5 => ?_)
          · exact absurd rfl c_5
          · refine lv_iconst (v := 1) hx hb dX6_isThere_52 (by decide) ?_
            refine lv_goto (tgt := 57) hx hb dX6_isThere_53 (by decide) ?_
            exact W.zret hx hb hr rfl (fun t ht _ => ⟨(some (.int 1)), _, rfl, ⟨rfl, rfl⟩, by rw [ht]; exact hP, hD, hS.F ht⟩) (fun q z => hS.2.2 q z) dX6_isThere_57
        · exact absurd c_4 hs
      · exact absurd h1 c_3
  · exact absurd c_1 ht
set_option maxHeartbeats 4000000 in
set_option maxRecDepth 100000 in
theorem m_value_N {l : Launch} {s0 : State} {a0 : Array Value} {dC : Nat → ClassId} {dI : Nat → Nat → Nat} {cA : Nat → ClassId} (h : xC l s0 a0 dC dI cA) (mo mr ml ms mv : Nat) (th wr gm gh gw bm bd bc ca : Int32) (so : Nat → Int32) (p1 : Int32) (sz : Nat) (ht : bm = 0) : Met l yX6_value [Cond.code yX6_value cX6_value 2 (some .int)] ({ frames := 2, cells := 0, slots := 0, locals := 80 } : Room) (xPM s0 (dC, dI) [.ref mo, .int p1] [(ms, .inl (cA 0, 20, .inl so))] [(mo, .inr (6, [.int th, .ref mr, .ref ml, .int wr, .int gm, .int gh, .int gw, .int bm, .int bd, .int bc, .int ca, .ref ms, .ref mv]))] sz) (xQM (dC, dI) (va_A [(mo, .inr (6, [.int th, .ref mr, .ref ml, .int wr, .int gm, .int gh, .int gw, .int bm, .int bd, .int bc, .int ca, .ref ms, .ref mv]))] sz) (fun r w1 => r = some (.int (0)) ∧ w1 = [(mo, .inr (6, [.int 1, .ref mr, .ref ml, .int wr, .int gm, .int gh, .int gw, .int bm, .int bd, .int bc, .int ca, .ref ms, .ref mv]))])) 0 0 (va_A [(mo, .inr (6, [.int th, .ref mr, .ref ml, .int wr, .int gm, .int gh, .int gw, .int bm, .int bd, .int bc, .int ca, .ref ms, .ref mv]))] sz) := by
  refine Met.ofW (cc := cX6_value) (maxL := 2) (ret := (some .int)) (by decide) rfl ?_
  intro p e s m args below meth c s₁ B hml hv
  obtain ⟨rfl, rfl, hb0, hPr, hP, hD0⟩ := hv
  have hx := B.exec
  have hb := B.bytes
  have hr := B.returns
  have hown : s.vm.findClass RX6 = some m.cls := findClass_of_methodNamed B.named
  have hlocks := B.notSynchronized
  have hK := h.K hb0
  have hS : va_S (va_A [(mo, .inr (6, [.int th, .ref mr, .ref ml, .int wr, .int gm, .int gh, .int gw, .int bm, .int bd, .int bc, .int ca, .ref ms, .ref mv]))] s.heap.size) s.heap s.heap [] := va_S.rf
  obtain ⟨A, hAe, hD, hA, hz, hRo, hwk, hnR⟩ := xM_start hb0 hPr hP hD0
  rw [hAe] at hS ⊢
  have hl := lv_entry ([.ref mo, .int p1]) (n := 2) (Nat.le_of_ble_eq_true rfl)
  rw [lg_entry_eq]
  generalize (lg_sl ([.ref mo, .int p1]) ++ List.replicate (2 - (lg_sl ([.ref mo, .int p1])).length) Slot.unset).toArray = ls at hl ⊢
  have hl : lv_has ls 2 [(0, .ref mo), (1, .int p1)] := hl
  refine lv_aload_n hx hb dX6_value_0 rfl (lv_at hl 0 rfl) ?_
  refine lv_iload_n hx hb dX6_value_1 rfl (lv_at hl 1 rfl) ?_
  refine xm_of (wc := [(mo, .inr (6, [.int th, .ref mr, .ref ml, .int wr, .int gm, .int gh, .int gw, .int bm, .int bd, .int bc, .int ca, .ref ms, .ref mv]))]) (wo := []) (va_runV (As := [.int p1]) (rest := []) ⟨hx, hb, hml, hown, xTs⟩ (c_isThere_N h mo mr ml ms mv th wr gm gh gw bm bd bc ca so p1 _ ht) ⟨xB (n := 1) (k_628 h hb0) (k_5 h hb0) (k_625 h hb0) (by decide) rfl rfl rfl (by decide) (by decide), (k_627 h hb0), (ks_4 h hb0)⟩ (xpMV (wr := [(ms, .inl (cA 0, 20, .inl so))]) (wc := [(mo, .inr (6, [.int th, .ref mr, .ref ml, .int wr, .int gm, .int gh, .int gw, .int bm, .int bd, .int bc, .int ca, .ref ms, .ref mv]))]) hb0 hS hz (va_P.sub (hRo _ _ hS) [0] rfl) (va_P.sub hP [0] rfl) (va_D.sub (xDD (xDl hD0) hD hz hnR) [0, 1] rfl rfl) (va_recv hK hP (ci := 6) (q0 := 0) rfl rfl)) rfl rfl hl.1 rfl (lv_room (Nat.le_of_ble_eq_true rfl)) dX6_value_2 ⟨(Nat.le_of_ble_eq_true rfl), (Nat.le_of_ble_eq_true rfl)⟩) hP hD hS hA [0] [] rfl rfl rfl (by decide) (fun r w1 H locs hΦ hP hD hS => ?_)
  obtain ⟨rfl, rfl⟩ := hΦ
  have hP : va_P (dC, dI) vwCl [(mo, .inr (6, [.int 1, .ref mr, .ref ml, .int wr, .int gm, .int gh, .int gw, .int bm, .int bd, .int bc, .int ca, .ref ms, .ref mv]))] H := hP
  have hD : va_D A [(mo, .inr (6, [.int 1, .ref mr, .ref ml, .int wr, .int gm, .int gh, .int gw, .int bm, .int bd, .int bc, .int ca, .ref ms, .ref mv]))] := hD
  refine lv_if_eq (tgt := 17) hx hb dX6_value_5 (by decide) (fun c_1 => ?_) (fun c_1 => ?_)
  · refine lv_iconst (v := 0) hx hb dX6_value_17 (by decide) ?_
    exact W.iret hx hb hr (fun t ht _ => ⟨(some (.int 0)), _, rfl, ⟨rfl, rfl⟩, by rw [ht]; exact hP, hD, hS.F ht⟩) (fun q z => hS.2.2 q z) dX6_value_18
  · exact absurd rfl c_1
set_option maxHeartbeats 4000000 in
set_option maxRecDepth 100000 in
theorem m_value_A {l : Launch} {s0 : State} {a0 : Array Value} {dC : Nat → ClassId} {dI : Nat → Nat → Nat} {cA : Nat → ClassId} (h : xC l s0 a0 dC dI cA) (mo mr ml ms mv : Nat) (th wr gm gh gw bm bd bc ca : Int32) (so : Nat → Int32) (p1 : Int32) (sz : Nat) (ht : ¬ bm = 0) (hc : p1 < 0 ∨ ¬ p1 < bc) : Met l yX6_value [Cond.code yX6_value cX6_value 2 (some .int)] ({ frames := 2, cells := 0, slots := 0, locals := 80 } : Room) (xPM s0 (dC, dI) [.ref mo, .int p1] [(ms, .inl (cA 0, 20, .inl so))] [(mo, .inr (6, [.int th, .ref mr, .ref ml, .int wr, .int gm, .int gh, .int gw, .int bm, .int bd, .int bc, .int ca, .ref ms, .ref mv]))] sz) (xQM (dC, dI) (va_A [(mo, .inr (6, [.int th, .ref mr, .ref ml, .int wr, .int gm, .int gh, .int gw, .int bm, .int bd, .int bc, .int ca, .ref ms, .ref mv]))] sz) (fun r w1 => r = some (.int (0)) ∧ w1 = [(mo, .inr (6, [.int 2, .ref mr, .ref ml, .int wr, .int gm, .int gh, .int gw, .int bm, .int bd, .int bc, .int ca, .ref ms, .ref mv]))])) 0 0 (va_A [(mo, .inr (6, [.int th, .ref mr, .ref ml, .int wr, .int gm, .int gh, .int gw, .int bm, .int bd, .int bc, .int ca, .ref ms, .ref mv]))] sz) := by
  refine Met.ofW (cc := cX6_value) (maxL := 2) (ret := (some .int)) (by decide) rfl ?_
  intro p e s m args below meth c s₁ B hml hv
  obtain ⟨rfl, rfl, hb0, hPr, hP, hD0⟩ := hv
  have hx := B.exec
  have hb := B.bytes
  have hr := B.returns
  have hown : s.vm.findClass RX6 = some m.cls := findClass_of_methodNamed B.named
  have hlocks := B.notSynchronized
  have hK := h.K hb0
  have hS : va_S (va_A [(mo, .inr (6, [.int th, .ref mr, .ref ml, .int wr, .int gm, .int gh, .int gw, .int bm, .int bd, .int bc, .int ca, .ref ms, .ref mv]))] s.heap.size) s.heap s.heap [] := va_S.rf
  obtain ⟨A, hAe, hD, hA, hz, hRo, hwk, hnR⟩ := xM_start hb0 hPr hP hD0
  rw [hAe] at hS ⊢
  have hl := lv_entry ([.ref mo, .int p1]) (n := 2) (Nat.le_of_ble_eq_true rfl)
  rw [lg_entry_eq]
  generalize (lg_sl ([.ref mo, .int p1]) ++ List.replicate (2 - (lg_sl ([.ref mo, .int p1])).length) Slot.unset).toArray = ls at hl ⊢
  have hl : lv_has ls 2 [(0, .ref mo), (1, .int p1)] := hl
  refine lv_aload_n hx hb dX6_value_0 rfl (lv_at hl 0 rfl) ?_
  refine lv_iload_n hx hb dX6_value_1 rfl (lv_at hl 1 rfl) ?_
  refine xm_of (wc := [(mo, .inr (6, [.int th, .ref mr, .ref ml, .int wr, .int gm, .int gh, .int gw, .int bm, .int bd, .int bc, .int ca, .ref ms, .ref mv]))]) (wo := []) (va_runV (As := [.int p1]) (rest := []) ⟨hx, hb, hml, hown, xTs⟩ (c_isThere_A h mo mr ml ms mv th wr gm gh gw bm bd bc ca so p1 _ ht hc) ⟨xB (n := 1) (k_628 h hb0) (k_5 h hb0) (k_625 h hb0) (by decide) rfl rfl rfl (by decide) (by decide), (k_627 h hb0), (ks_4 h hb0)⟩ (xpMV (wr := [(ms, .inl (cA 0, 20, .inl so))]) (wc := [(mo, .inr (6, [.int th, .ref mr, .ref ml, .int wr, .int gm, .int gh, .int gw, .int bm, .int bd, .int bc, .int ca, .ref ms, .ref mv]))]) hb0 hS hz (va_P.sub (hRo _ _ hS) [0] rfl) (va_P.sub hP [0] rfl) (va_D.sub (xDD (xDl hD0) hD hz hnR) [0, 1] rfl rfl) (va_recv hK hP (ci := 6) (q0 := 0) rfl rfl)) rfl rfl hl.1 rfl (lv_room (Nat.le_of_ble_eq_true rfl)) dX6_value_2 ⟨(Nat.le_of_ble_eq_true rfl), (Nat.le_of_ble_eq_true rfl)⟩) hP hD hS hA [0] [] rfl rfl rfl (by decide) (fun r w1 H locs hΦ hP hD hS => ?_)
  obtain ⟨rfl, rfl⟩ := hΦ
  have hP : va_P (dC, dI) vwCl [(mo, .inr (6, [.int 2, .ref mr, .ref ml, .int wr, .int gm, .int gh, .int gw, .int bm, .int bd, .int bc, .int ca, .ref ms, .ref mv]))] H := hP
  have hD : va_D A [(mo, .inr (6, [.int 2, .ref mr, .ref ml, .int wr, .int gm, .int gh, .int gw, .int bm, .int bd, .int bc, .int ca, .ref ms, .ref mv]))] := hD
  refine lv_if_eq (tgt := 17) hx hb dX6_value_5 (by decide) (fun c_1 => ?_) (fun c_1 => ?_)
  · refine lv_iconst (v := 0) hx hb dX6_value_17 (by decide) ?_
    exact W.iret hx hb hr (fun t ht _ => ⟨(some (.int 0)), _, rfl, ⟨rfl, rfl⟩, by rw [ht]; exact hP, hD, hS.F ht⟩) (fun q z => hS.2.2 q z) dX6_value_18
  · exact absurd rfl c_1
set_option maxHeartbeats 4000000 in
set_option maxRecDepth 100000 in
theorem m_value_2 {l : Launch} {s0 : State} {a0 : Array Value} {dC : Nat → ClassId} {dI : Nat → Nat → Nat} {cA : Nat → ClassId} (h : xC l s0 a0 dC dI cA) (mo mr ml ms mv : Nat) (th wr gm gh gw bm bd bc ca : Int32) (so : Nat → Int32) (p1 : Int32) (sz : Nat) (ht : ¬ bm = 0) (h0 : ¬ p1 < 0) (h1 : p1 < bc) (hi : vp_in p1 20) (hs : so p1.toNatClampNeg = 0) : Met l yX6_value [Cond.code yX6_value cX6_value 2 (some .int)] ({ frames := 2, cells := 0, slots := 0, locals := 80 } : Room) (xPM s0 (dC, dI) [.ref mo, .int p1] [(ms, .inl (cA 0, 20, .inl so))] [(mo, .inr (6, [.int th, .ref mr, .ref ml, .int wr, .int gm, .int gh, .int gw, .int bm, .int bd, .int bc, .int ca, .ref ms, .ref mv]))] sz) (xQM (dC, dI) (va_A [(mo, .inr (6, [.int th, .ref mr, .ref ml, .int wr, .int gm, .int gh, .int gw, .int bm, .int bd, .int bc, .int ca, .ref ms, .ref mv]))] sz) (fun r w1 => r = some (.int (0)) ∧ w1 = [(mo, .inr (6, [.int 1, .ref mr, .ref ml, .int wr, .int gm, .int gh, .int gw, .int bm, .int bd, .int bc, .int ca, .ref ms, .ref mv]))])) 0 0 (va_A [(mo, .inr (6, [.int th, .ref mr, .ref ml, .int wr, .int gm, .int gh, .int gw, .int bm, .int bd, .int bc, .int ca, .ref ms, .ref mv]))] sz) := by
  refine Met.ofW (cc := cX6_value) (maxL := 2) (ret := (some .int)) (by decide) rfl ?_
  intro p e s m args below meth c s₁ B hml hv
  obtain ⟨rfl, rfl, hb0, hPr, hP, hD0⟩ := hv
  have hx := B.exec
  have hb := B.bytes
  have hr := B.returns
  have hown : s.vm.findClass RX6 = some m.cls := findClass_of_methodNamed B.named
  have hlocks := B.notSynchronized
  have hK := h.K hb0
  have hS : va_S (va_A [(mo, .inr (6, [.int th, .ref mr, .ref ml, .int wr, .int gm, .int gh, .int gw, .int bm, .int bd, .int bc, .int ca, .ref ms, .ref mv]))] s.heap.size) s.heap s.heap [] := va_S.rf
  obtain ⟨A, hAe, hD, hA, hz, hRo, hwk, hnR⟩ := xM_start hb0 hPr hP hD0
  rw [hAe] at hS ⊢
  have hl := lv_entry ([.ref mo, .int p1]) (n := 2) (Nat.le_of_ble_eq_true rfl)
  rw [lg_entry_eq]
  generalize (lg_sl ([.ref mo, .int p1]) ++ List.replicate (2 - (lg_sl ([.ref mo, .int p1])).length) Slot.unset).toArray = ls at hl ⊢
  have hl : lv_has ls 2 [(0, .ref mo), (1, .int p1)] := hl
  refine lv_aload_n hx hb dX6_value_0 rfl (lv_at hl 0 rfl) ?_
  refine lv_iload_n hx hb dX6_value_1 rfl (lv_at hl 1 rfl) ?_
  refine xm_of (wc := [(mo, .inr (6, [.int th, .ref mr, .ref ml, .int wr, .int gm, .int gh, .int gw, .int bm, .int bd, .int bc, .int ca, .ref ms, .ref mv]))]) (wo := []) (va_runV (As := [.int p1]) (rest := []) ⟨hx, hb, hml, hown, xTs⟩ (c_isThere_2 h mo mr ml ms mv th wr gm gh gw bm bd bc ca so p1 _ ht h0 h1 hi hs) ⟨xB (n := 1) (k_628 h hb0) (k_5 h hb0) (k_625 h hb0) (by decide) rfl rfl rfl (by decide) (by decide), (k_627 h hb0), (ks_4 h hb0)⟩ (xpMV (wr := [(ms, .inl (cA 0, 20, .inl so))]) (wc := [(mo, .inr (6, [.int th, .ref mr, .ref ml, .int wr, .int gm, .int gh, .int gw, .int bm, .int bd, .int bc, .int ca, .ref ms, .ref mv]))]) hb0 hS hz (va_P.sub (hRo _ _ hS) [0] rfl) (va_P.sub hP [0] rfl) (va_D.sub (xDD (xDl hD0) hD hz hnR) [0, 1] rfl rfl) (va_recv hK hP (ci := 6) (q0 := 0) rfl rfl)) rfl rfl hl.1 rfl (lv_room (Nat.le_of_ble_eq_true rfl)) dX6_value_2 ⟨(Nat.le_of_ble_eq_true rfl), (Nat.le_of_ble_eq_true rfl)⟩) hP hD hS hA [0] [] rfl rfl rfl (by decide) (fun r w1 H locs hΦ hP hD hS => ?_)
  obtain ⟨rfl, rfl⟩ := hΦ
  have hP : va_P (dC, dI) vwCl [(mo, .inr (6, [.int 1, .ref mr, .ref ml, .int wr, .int gm, .int gh, .int gw, .int bm, .int bd, .int bc, .int ca, .ref ms, .ref mv]))] H := hP
  have hD : va_D A [(mo, .inr (6, [.int 1, .ref mr, .ref ml, .int wr, .int gm, .int gh, .int gw, .int bm, .int bd, .int bc, .int ca, .ref ms, .ref mv]))] := hD
  refine lv_if_eq (tgt := 17) hx hb dX6_value_5 (by decide) (fun c_1 => ?_) (fun c_1 => ?_)
  · refine lv_iconst (v := 0) hx hb dX6_value_17 (by decide) ?_
    exact W.iret hx hb hr (fun t ht _ => ⟨(some (.int 0)), _, rfl, ⟨rfl, rfl⟩, by rw [ht]; exact hP, hD, hS.F ht⟩) (fun q z => hS.2.2 q z) dX6_value_18
  · exact absurd rfl c_1
set_option maxHeartbeats 4000000 in
set_option maxRecDepth 100000 in
theorem m_value_c {l : Launch} {s0 : State} {a0 : Array Value} {dC : Nat → ClassId} {dI : Nat → Nat → Nat} {cA : Nat → ClassId} (h : xC l s0 a0 dC dI cA) (mo mr ml ms mv : Nat) (th wr gm gh gw bm bd bc ca : Int32) (so : Nat → Int32) (va : Nat → Int32) (p1 : Int32) (sz : Nat) (ht : ¬ bm = 0) (h0 : ¬ p1 < 0) (h1 : p1 < bc) (hi : vp_in p1 20) (hs : ¬ so p1.toNatClampNeg = 0) : Met l yX6_value [Cond.code yX6_value cX6_value 2 (some .int)] ({ frames := 2, cells := 0, slots := 0, locals := 80 } : Room) (xPM s0 (dC, dI) [.ref mo, .int p1] [(ms, .inl (cA 0, 20, .inl so)), (mv, .inl (cA 0, 20, .inl va))] [(mo, .inr (6, [.int th, .ref mr, .ref ml, .int wr, .int gm, .int gh, .int gw, .int bm, .int bd, .int bc, .int ca, .ref ms, .ref mv]))] sz) (xQM (dC, dI) (va_A [(mo, .inr (6, [.int th, .ref mr, .ref ml, .int wr, .int gm, .int gh, .int gw, .int bm, .int bd, .int bc, .int ca, .ref ms, .ref mv]))] sz) (fun r w1 => r = some (.int (va p1.toNatClampNeg)) ∧ w1 = [(mo, .inr (6, [.int 0, .ref mr, .ref ml, .int wr, .int gm, .int gh, .int gw, .int bm, .int bd, .int bc, .int ca, .ref ms, .ref mv]))])) 0 0 (va_A [(mo, .inr (6, [.int th, .ref mr, .ref ml, .int wr, .int gm, .int gh, .int gw, .int bm, .int bd, .int bc, .int ca, .ref ms, .ref mv]))] sz) := by
  refine Met.ofW (cc := cX6_value) (maxL := 2) (ret := (some .int)) (by decide) rfl ?_
  intro p e s m args below meth c s₁ B hml hv
  obtain ⟨rfl, rfl, hb0, hPr, hP, hD0⟩ := hv
  have hx := B.exec
  have hb := B.bytes
  have hr := B.returns
  have hown : s.vm.findClass RX6 = some m.cls := findClass_of_methodNamed B.named
  have hlocks := B.notSynchronized
  have hK := h.K hb0
  have hS : va_S (va_A [(mo, .inr (6, [.int th, .ref mr, .ref ml, .int wr, .int gm, .int gh, .int gw, .int bm, .int bd, .int bc, .int ca, .ref ms, .ref mv]))] s.heap.size) s.heap s.heap [] := va_S.rf
  obtain ⟨A, hAe, hD, hA, hz, hRo, hwk, hnR⟩ := xM_start hb0 hPr hP hD0
  rw [hAe] at hS ⊢
  have hl := lv_entry ([.ref mo, .int p1]) (n := 2) (Nat.le_of_ble_eq_true rfl)
  rw [lg_entry_eq]
  generalize (lg_sl ([.ref mo, .int p1]) ++ List.replicate (2 - (lg_sl ([.ref mo, .int p1])).length) Slot.unset).toArray = ls at hl ⊢
  have hl : lv_has ls 2 [(0, .ref mo), (1, .int p1)] := hl
  refine lv_aload_n hx hb dX6_value_0 rfl (lv_at hl 0 rfl) ?_
  refine lv_iload_n hx hb dX6_value_1 rfl (lv_at hl 1 rfl) ?_
  refine xm_of (wc := [(mo, .inr (6, [.int th, .ref mr, .ref ml, .int wr, .int gm, .int gh, .int gw, .int bm, .int bd, .int bc, .int ca, .ref ms, .ref mv]))]) (wo := []) (va_runV (As := [.int p1]) (rest := []) ⟨hx, hb, hml, hown, xTs⟩ (c_isThere_c h mo mr ml ms mv th wr gm gh gw bm bd bc ca so p1 _ ht h0 h1 hi hs) ⟨xB (n := 1) (k_628 h hb0) (k_5 h hb0) (k_625 h hb0) (by decide) rfl rfl rfl (by decide) (by decide), (k_627 h hb0), (ks_4 h hb0)⟩ (xpMV (wr := [(ms, .inl (cA 0, 20, .inl so))]) (wc := [(mo, .inr (6, [.int th, .ref mr, .ref ml, .int wr, .int gm, .int gh, .int gw, .int bm, .int bd, .int bc, .int ca, .ref ms, .ref mv]))]) hb0 hS hz (va_P.sub (hRo _ _ hS) [0] rfl) (va_P.sub hP [0] rfl) (va_D.sub (xDD (xDl hD0) hD hz hnR) [0, 2] rfl rfl) (va_recv hK hP (ci := 6) (q0 := 0) rfl rfl)) rfl rfl hl.1 rfl (lv_room (Nat.le_of_ble_eq_true rfl)) dX6_value_2 ⟨(Nat.le_of_ble_eq_true rfl), (Nat.le_of_ble_eq_true rfl)⟩) hP hD hS hA [0] [] rfl rfl rfl (by decide) (fun r w1 H locs hΦ hP hD hS => ?_)
  obtain ⟨rfl, rfl⟩ := hΦ
  have hP : va_P (dC, dI) vwCl [(mo, .inr (6, [.int 0, .ref mr, .ref ml, .int wr, .int gm, .int gh, .int gw, .int bm, .int bd, .int bc, .int ca, .ref ms, .ref mv]))] H := hP
  have hD : va_D A [(mo, .inr (6, [.int 0, .ref mr, .ref ml, .int wr, .int gm, .int gh, .int gw, .int bm, .int bd, .int bc, .int ca, .ref ms, .ref mv]))] := hD
  refine lv_if_eq (tgt := 17) hx hb dX6_value_5 (by decide) (fun c_1 => ?_) (fun c_1 => ?_)
  · exact absurd c_1 (by decide)
  · refine lv_aload_n hx hb dX6_value_8 rfl (lv_at hl 0 rfl) ?_
    refine va_get (D := (dC, dI)) (ci := 6) (v := .ref mv) (C := RX6) (T := TX6) (N := 13) hx hb (ly_6 h hb0) (fun _ z => z) hown hK hP 0 rfl rfl 12 (by decide) (k_543 h hb0) (fun _ z => z) rfl dX6_value_9 ?_
    refine lv_iload_n hx hb dX6_value_12 rfl (lv_at hl 1 rfl) ?_
    refine va_iald hx hb hK (hRo _ _ hS) 1 0 rfl rfl hi dX6_value_13 ?_
    refine lv_goto (tgt := 18) hx hb dX6_value_14 (by decide) ?_
    exact W.iret hx hb hr (fun t ht _ => ⟨(some (.int (va p1.toNatClampNeg))), _, rfl, ⟨rfl, rfl⟩, by rw [ht]; exact hP, hD, hS.F ht⟩) (fun q z => hS.2.2 q z) dX6_value_18
set_option maxHeartbeats 4000000 in
set_option maxRecDepth 100000 in
theorem m_change_N {l : Launch} {s0 : State} {a0 : Array Value} {dC : Nat → ClassId} {dI : Nat → Nat → Nat} {cA : Nat → ClassId} (h : xC l s0 a0 dC dI cA) (mo mr ml ms mv : Nat) (th wr gm gh gw bm bd bc ca : Int32) (so : Nat → Int32) (p1 p2 : Int32) (sz : Nat) (ht : bm = 0) : Met l yX6_change [Cond.code yX6_change cX6_change 4 (some .int)] ({ frames := 2, cells := 0, slots := 0, locals := 80 } : Room) (xPM s0 (dC, dI) [.ref mo, .int p1, .int p2] [(ms, .inl (cA 0, 20, .inl so))] [(mo, .inr (6, [.int th, .ref mr, .ref ml, .int wr, .int gm, .int gh, .int gw, .int bm, .int bd, .int bc, .int ca, .ref ms, .ref mv]))] sz) (xQM (dC, dI) (va_A [(mo, .inr (6, [.int th, .ref mr, .ref ml, .int wr, .int gm, .int gh, .int gw, .int bm, .int bd, .int bc, .int ca, .ref ms, .ref mv]))] sz) (fun r w1 => r = some (.int (0)) ∧ w1 = [(mo, .inr (6, [.int 1, .ref mr, .ref ml, .int wr, .int gm, .int gh, .int gw, .int bm, .int bd, .int bc, .int ca, .ref ms, .ref mv]))])) 0 0 (va_A [(mo, .inr (6, [.int th, .ref mr, .ref ml, .int wr, .int gm, .int gh, .int gw, .int bm, .int bd, .int bc, .int ca, .ref ms, .ref mv]))] sz) := by
  refine Met.ofW (cc := cX6_change) (maxL := 4) (ret := (some .int)) (by decide) rfl ?_
  intro p e s m args below meth c s₁ B hml hv
  obtain ⟨rfl, rfl, hb0, hPr, hP, hD0⟩ := hv
  have hx := B.exec
  have hb := B.bytes
  have hr := B.returns
  have hown : s.vm.findClass RX6 = some m.cls := findClass_of_methodNamed B.named
  have hlocks := B.notSynchronized
  have hK := h.K hb0
  have hS : va_S (va_A [(mo, .inr (6, [.int th, .ref mr, .ref ml, .int wr, .int gm, .int gh, .int gw, .int bm, .int bd, .int bc, .int ca, .ref ms, .ref mv]))] s.heap.size) s.heap s.heap [] := va_S.rf
  obtain ⟨A, hAe, hD, hA, hz, hRo, hwk, hnR⟩ := xM_start hb0 hPr hP hD0
  rw [hAe] at hS ⊢
  have hl := lv_entry ([.ref mo, .int p1, .int p2]) (n := 4) (Nat.le_of_ble_eq_true rfl)
  rw [lg_entry_eq]
  generalize (lg_sl ([.ref mo, .int p1, .int p2]) ++ List.replicate (4 - (lg_sl ([.ref mo, .int p1, .int p2])).length) Slot.unset).toArray = ls at hl ⊢
  have hl : lv_has ls 4 [(0, .ref mo), (1, .int p1), (2, .int p2)] := hl
  refine lv_aload_n hx hb dX6_change_0 rfl (lv_at hl 0 rfl) ?_
  refine lv_iload_n hx hb dX6_change_1 rfl (lv_at hl 1 rfl) ?_
  refine xm_of (wc := [(mo, .inr (6, [.int th, .ref mr, .ref ml, .int wr, .int gm, .int gh, .int gw, .int bm, .int bd, .int bc, .int ca, .ref ms, .ref mv]))]) (wo := []) (va_runV (As := [.int p1]) (rest := []) ⟨hx, hb, hml, hown, xTs⟩ (c_isThere_N h mo mr ml ms mv th wr gm gh gw bm bd bc ca so p1 _ ht) ⟨xB (n := 1) (k_628 h hb0) (k_5 h hb0) (k_625 h hb0) (by decide) rfl rfl rfl (by decide) (by decide), (k_627 h hb0), (ks_4 h hb0)⟩ (xpMV (wr := [(ms, .inl (cA 0, 20, .inl so))]) (wc := [(mo, .inr (6, [.int th, .ref mr, .ref ml, .int wr, .int gm, .int gh, .int gw, .int bm, .int bd, .int bc, .int ca, .ref ms, .ref mv]))]) hb0 hS hz (va_P.sub (hRo _ _ hS) [0] rfl) (va_P.sub hP [0] rfl) (va_D.sub (xDD (xDl hD0) hD hz hnR) [0, 1] rfl rfl) (va_recv hK hP (ci := 6) (q0 := 0) rfl rfl)) rfl rfl hl.1 rfl (lv_room (Nat.le_of_ble_eq_true rfl)) dX6_change_2 ⟨(Nat.le_of_ble_eq_true rfl), (Nat.le_of_ble_eq_true rfl)⟩) hP hD hS hA [0] [] rfl rfl rfl (by decide) (fun r w1 H locs hΦ hP hD hS => ?_)
  obtain ⟨rfl, rfl⟩ := hΦ
  have hP : va_P (dC, dI) vwCl [(mo, .inr (6, [.int 1, .ref mr, .ref ml, .int wr, .int gm, .int gh, .int gw, .int bm, .int bd, .int bc, .int ca, .ref ms, .ref mv]))] H := hP
  have hD : va_D A [(mo, .inr (6, [.int 1, .ref mr, .ref ml, .int wr, .int gm, .int gh, .int gw, .int bm, .int bd, .int bc, .int ca, .ref ms, .ref mv]))] := hD
  refine lv_if_ne (tgt := 10) hx hb dX6_change_5 (by decide) (fun c_1 => ?_) (fun c_1 => ?_)
  · exact absurd rfl c_1
  · refine lv_iconst (v := 0) hx hb dX6_change_8 (by decide) ?_
    exact W.iret hx hb hr (fun t ht _ => ⟨(some (.int 0)), _, rfl, ⟨rfl, rfl⟩, by rw [ht]; exact hP, hD, hS.F ht⟩) (fun q z => hS.2.2 q z) dX6_change_9
set_option maxHeartbeats 4000000 in
set_option maxRecDepth 100000 in
theorem m_change_A {l : Launch} {s0 : State} {a0 : Array Value} {dC : Nat → ClassId} {dI : Nat → Nat → Nat} {cA : Nat → ClassId} (h : xC l s0 a0 dC dI cA) (mo mr ml ms mv : Nat) (th wr gm gh gw bm bd bc ca : Int32) (so : Nat → Int32) (p1 p2 : Int32) (sz : Nat) (ht : ¬ bm = 0) (hc : p1 < 0 ∨ ¬ p1 < bc) : Met l yX6_change [Cond.code yX6_change cX6_change 4 (some .int)] ({ frames := 2, cells := 0, slots := 0, locals := 80 } : Room) (xPM s0 (dC, dI) [.ref mo, .int p1, .int p2] [(ms, .inl (cA 0, 20, .inl so))] [(mo, .inr (6, [.int th, .ref mr, .ref ml, .int wr, .int gm, .int gh, .int gw, .int bm, .int bd, .int bc, .int ca, .ref ms, .ref mv]))] sz) (xQM (dC, dI) (va_A [(mo, .inr (6, [.int th, .ref mr, .ref ml, .int wr, .int gm, .int gh, .int gw, .int bm, .int bd, .int bc, .int ca, .ref ms, .ref mv]))] sz) (fun r w1 => r = some (.int (0)) ∧ w1 = [(mo, .inr (6, [.int 2, .ref mr, .ref ml, .int wr, .int gm, .int gh, .int gw, .int bm, .int bd, .int bc, .int ca, .ref ms, .ref mv]))])) 0 0 (va_A [(mo, .inr (6, [.int th, .ref mr, .ref ml, .int wr, .int gm, .int gh, .int gw, .int bm, .int bd, .int bc, .int ca, .ref ms, .ref mv]))] sz) := by
  refine Met.ofW (cc := cX6_change) (maxL := 4) (ret := (some .int)) (by decide) rfl ?_
  intro p e s m args below meth c s₁ B hml hv
  obtain ⟨rfl, rfl, hb0, hPr, hP, hD0⟩ := hv
  have hx := B.exec
  have hb := B.bytes
  have hr := B.returns
  have hown : s.vm.findClass RX6 = some m.cls := findClass_of_methodNamed B.named
  have hlocks := B.notSynchronized
  have hK := h.K hb0
  have hS : va_S (va_A [(mo, .inr (6, [.int th, .ref mr, .ref ml, .int wr, .int gm, .int gh, .int gw, .int bm, .int bd, .int bc, .int ca, .ref ms, .ref mv]))] s.heap.size) s.heap s.heap [] := va_S.rf
  obtain ⟨A, hAe, hD, hA, hz, hRo, hwk, hnR⟩ := xM_start hb0 hPr hP hD0
  rw [hAe] at hS ⊢
  have hl := lv_entry ([.ref mo, .int p1, .int p2]) (n := 4) (Nat.le_of_ble_eq_true rfl)
  rw [lg_entry_eq]
  generalize (lg_sl ([.ref mo, .int p1, .int p2]) ++ List.replicate (4 - (lg_sl ([.ref mo, .int p1, .int p2])).length) Slot.unset).toArray = ls at hl ⊢
  have hl : lv_has ls 4 [(0, .ref mo), (1, .int p1), (2, .int p2)] := hl
  refine lv_aload_n hx hb dX6_change_0 rfl (lv_at hl 0 rfl) ?_
  refine lv_iload_n hx hb dX6_change_1 rfl (lv_at hl 1 rfl) ?_
  refine xm_of (wc := [(mo, .inr (6, [.int th, .ref mr, .ref ml, .int wr, .int gm, .int gh, .int gw, .int bm, .int bd, .int bc, .int ca, .ref ms, .ref mv]))]) (wo := []) (va_runV (As := [.int p1]) (rest := []) ⟨hx, hb, hml, hown, xTs⟩ (c_isThere_A h mo mr ml ms mv th wr gm gh gw bm bd bc ca so p1 _ ht hc) ⟨xB (n := 1) (k_628 h hb0) (k_5 h hb0) (k_625 h hb0) (by decide) rfl rfl rfl (by decide) (by decide), (k_627 h hb0), (ks_4 h hb0)⟩ (xpMV (wr := [(ms, .inl (cA 0, 20, .inl so))]) (wc := [(mo, .inr (6, [.int th, .ref mr, .ref ml, .int wr, .int gm, .int gh, .int gw, .int bm, .int bd, .int bc, .int ca, .ref ms, .ref mv]))]) hb0 hS hz (va_P.sub (hRo _ _ hS) [0] rfl) (va_P.sub hP [0] rfl) (va_D.sub (xDD (xDl hD0) hD hz hnR) [0, 1] rfl rfl) (va_recv hK hP (ci := 6) (q0 := 0) rfl rfl)) rfl rfl hl.1 rfl (lv_room (Nat.le_of_ble_eq_true rfl)) dX6_change_2 ⟨(Nat.le_of_ble_eq_true rfl), (Nat.le_of_ble_eq_true rfl)⟩) hP hD hS hA [0] [] rfl rfl rfl (by decide) (fun r w1 H locs hΦ hP hD hS => ?_)
  obtain ⟨rfl, rfl⟩ := hΦ
  have hP : va_P (dC, dI) vwCl [(mo, .inr (6, [.int 2, .ref mr, .ref ml, .int wr, .int gm, .int gh, .int gw, .int bm, .int bd, .int bc, .int ca, .ref ms, .ref mv]))] H := hP
  have hD : va_D A [(mo, .inr (6, [.int 2, .ref mr, .ref ml, .int wr, .int gm, .int gh, .int gw, .int bm, .int bd, .int bc, .int ca, .ref ms, .ref mv]))] := hD
  refine lv_if_ne (tgt := 10) hx hb dX6_change_5 (by decide) (fun c_1 => ?_) (fun c_1 => ?_)
  · exact absurd rfl c_1
  · refine lv_iconst (v := 0) hx hb dX6_change_8 (by decide) ?_
    exact W.iret hx hb hr (fun t ht _ => ⟨(some (.int 0)), _, rfl, ⟨rfl, rfl⟩, by rw [ht]; exact hP, hD, hS.F ht⟩) (fun q z => hS.2.2 q z) dX6_change_9
set_option maxHeartbeats 4000000 in
set_option maxRecDepth 100000 in
theorem m_change_2 {l : Launch} {s0 : State} {a0 : Array Value} {dC : Nat → ClassId} {dI : Nat → Nat → Nat} {cA : Nat → ClassId} (h : xC l s0 a0 dC dI cA) (mo mr ml ms mv : Nat) (th wr gm gh gw bm bd bc ca : Int32) (so : Nat → Int32) (p1 p2 : Int32) (sz : Nat) (ht : ¬ bm = 0) (h0 : ¬ p1 < 0) (h1 : p1 < bc) (hi : vp_in p1 20) (hs : so p1.toNatClampNeg = 0) : Met l yX6_change [Cond.code yX6_change cX6_change 4 (some .int)] ({ frames := 2, cells := 0, slots := 0, locals := 80 } : Room) (xPM s0 (dC, dI) [.ref mo, .int p1, .int p2] [(ms, .inl (cA 0, 20, .inl so))] [(mo, .inr (6, [.int th, .ref mr, .ref ml, .int wr, .int gm, .int gh, .int gw, .int bm, .int bd, .int bc, .int ca, .ref ms, .ref mv]))] sz) (xQM (dC, dI) (va_A [(mo, .inr (6, [.int th, .ref mr, .ref ml, .int wr, .int gm, .int gh, .int gw, .int bm, .int bd, .int bc, .int ca, .ref ms, .ref mv]))] sz) (fun r w1 => r = some (.int (0)) ∧ w1 = [(mo, .inr (6, [.int 1, .ref mr, .ref ml, .int wr, .int gm, .int gh, .int gw, .int bm, .int bd, .int bc, .int ca, .ref ms, .ref mv]))])) 0 0 (va_A [(mo, .inr (6, [.int th, .ref mr, .ref ml, .int wr, .int gm, .int gh, .int gw, .int bm, .int bd, .int bc, .int ca, .ref ms, .ref mv]))] sz) := by
  refine Met.ofW (cc := cX6_change) (maxL := 4) (ret := (some .int)) (by decide) rfl ?_
  intro p e s m args below meth c s₁ B hml hv
  obtain ⟨rfl, rfl, hb0, hPr, hP, hD0⟩ := hv
  have hx := B.exec
  have hb := B.bytes
  have hr := B.returns
  have hown : s.vm.findClass RX6 = some m.cls := findClass_of_methodNamed B.named
  have hlocks := B.notSynchronized
  have hK := h.K hb0
  have hS : va_S (va_A [(mo, .inr (6, [.int th, .ref mr, .ref ml, .int wr, .int gm, .int gh, .int gw, .int bm, .int bd, .int bc, .int ca, .ref ms, .ref mv]))] s.heap.size) s.heap s.heap [] := va_S.rf
  obtain ⟨A, hAe, hD, hA, hz, hRo, hwk, hnR⟩ := xM_start hb0 hPr hP hD0
  rw [hAe] at hS ⊢
  have hl := lv_entry ([.ref mo, .int p1, .int p2]) (n := 4) (Nat.le_of_ble_eq_true rfl)
  rw [lg_entry_eq]
  generalize (lg_sl ([.ref mo, .int p1, .int p2]) ++ List.replicate (4 - (lg_sl ([.ref mo, .int p1, .int p2])).length) Slot.unset).toArray = ls at hl ⊢
  have hl : lv_has ls 4 [(0, .ref mo), (1, .int p1), (2, .int p2)] := hl
  refine lv_aload_n hx hb dX6_change_0 rfl (lv_at hl 0 rfl) ?_
  refine lv_iload_n hx hb dX6_change_1 rfl (lv_at hl 1 rfl) ?_
  refine xm_of (wc := [(mo, .inr (6, [.int th, .ref mr, .ref ml, .int wr, .int gm, .int gh, .int gw, .int bm, .int bd, .int bc, .int ca, .ref ms, .ref mv]))]) (wo := []) (va_runV (As := [.int p1]) (rest := []) ⟨hx, hb, hml, hown, xTs⟩ (c_isThere_2 h mo mr ml ms mv th wr gm gh gw bm bd bc ca so p1 _ ht h0 h1 hi hs) ⟨xB (n := 1) (k_628 h hb0) (k_5 h hb0) (k_625 h hb0) (by decide) rfl rfl rfl (by decide) (by decide), (k_627 h hb0), (ks_4 h hb0)⟩ (xpMV (wr := [(ms, .inl (cA 0, 20, .inl so))]) (wc := [(mo, .inr (6, [.int th, .ref mr, .ref ml, .int wr, .int gm, .int gh, .int gw, .int bm, .int bd, .int bc, .int ca, .ref ms, .ref mv]))]) hb0 hS hz (va_P.sub (hRo _ _ hS) [0] rfl) (va_P.sub hP [0] rfl) (va_D.sub (xDD (xDl hD0) hD hz hnR) [0, 1] rfl rfl) (va_recv hK hP (ci := 6) (q0 := 0) rfl rfl)) rfl rfl hl.1 rfl (lv_room (Nat.le_of_ble_eq_true rfl)) dX6_change_2 ⟨(Nat.le_of_ble_eq_true rfl), (Nat.le_of_ble_eq_true rfl)⟩) hP hD hS hA [0] [] rfl rfl rfl (by decide) (fun r w1 H locs hΦ hP hD hS => ?_)
  obtain ⟨rfl, rfl⟩ := hΦ
  have hP : va_P (dC, dI) vwCl [(mo, .inr (6, [.int 1, .ref mr, .ref ml, .int wr, .int gm, .int gh, .int gw, .int bm, .int bd, .int bc, .int ca, .ref ms, .ref mv]))] H := hP
  have hD : va_D A [(mo, .inr (6, [.int 1, .ref mr, .ref ml, .int wr, .int gm, .int gh, .int gw, .int bm, .int bd, .int bc, .int ca, .ref ms, .ref mv]))] := hD
  refine lv_if_ne (tgt := 10) hx hb dX6_change_5 (by decide) (fun c_1 => ?_) (fun c_1 => ?_)
  · exact absurd rfl c_1
  · refine lv_iconst (v := 0) hx hb dX6_change_8 (by decide) ?_
    exact W.iret hx hb hr (fun t ht _ => ⟨(some (.int 0)), _, rfl, ⟨rfl, rfl⟩, by rw [ht]; exact hP, hD, hS.F ht⟩) (fun q z => hS.2.2 q z) dX6_change_9
set_option maxHeartbeats 4000000 in
set_option maxRecDepth 100000 in
theorem m_change_c {l : Launch} {s0 : State} {a0 : Array Value} {dC : Nat → ClassId} {dI : Nat → Nat → Nat} {cA : Nat → ClassId} (h : xC l s0 a0 dC dI cA) (mo mr ml ms mv : Nat) (th wr gm gh gw bm bd bc ca : Int32) (so : Nat → Int32) (va : Nat → Int32) (p1 p2 : Int32) (sz : Nat) (ht : ¬ bm = 0) (h0 : ¬ p1 < 0) (h1 : p1 < bc) (hi : vp_in p1 20) (hs : ¬ so p1.toNatClampNeg = 0) : Met l yX6_change [Cond.code yX6_change cX6_change 4 (some .int)] ({ frames := 2, cells := 0, slots := 0, locals := 80 } : Room) (xPM s0 (dC, dI) [.ref mo, .int p1, .int p2] [(ms, .inl (cA 0, 20, .inl so))] [(mv, .inl (cA 0, 20, .inl va)), (mo, .inr (6, [.int th, .ref mr, .ref ml, .int wr, .int gm, .int gh, .int gw, .int bm, .int bd, .int bc, .int ca, .ref ms, .ref mv]))] sz) (xQM (dC, dI) (va_A [(mv, .inl (cA 0, 20, .inl va)), (mo, .inr (6, [.int th, .ref mr, .ref ml, .int wr, .int gm, .int gh, .int gw, .int bm, .int bd, .int bc, .int ca, .ref ms, .ref mv]))] sz) (fun r w1 => r = some (.int (va p1.toNatClampNeg)) ∧ w1 = [(mv, .inl (cA 0, 20, .inl (upd va p1.toNatClampNeg p2))), (mo, .inr (6, [.int 0, .ref mr, .ref ml, .int wr, .int gm, .int gh, .int gw, .int bm, .int bd, .int bc, .int ca, .ref ms, .ref mv]))])) 0 0 (va_A [(mv, .inl (cA 0, 20, .inl va)), (mo, .inr (6, [.int th, .ref mr, .ref ml, .int wr, .int gm, .int gh, .int gw, .int bm, .int bd, .int bc, .int ca, .ref ms, .ref mv]))] sz) := by
  refine Met.ofW (cc := cX6_change) (maxL := 4) (ret := (some .int)) (by decide) rfl ?_
  intro p e s m args below meth c s₁ B hml hv
  obtain ⟨rfl, rfl, hb0, hPr, hP, hD0⟩ := hv
  have hx := B.exec
  have hb := B.bytes
  have hr := B.returns
  have hown : s.vm.findClass RX6 = some m.cls := findClass_of_methodNamed B.named
  have hlocks := B.notSynchronized
  have hK := h.K hb0
  have hS : va_S (va_A [(mv, .inl (cA 0, 20, .inl va)), (mo, .inr (6, [.int th, .ref mr, .ref ml, .int wr, .int gm, .int gh, .int gw, .int bm, .int bd, .int bc, .int ca, .ref ms, .ref mv]))] s.heap.size) s.heap s.heap [] := va_S.rf
  obtain ⟨A, hAe, hD, hA, hz, hRo, hwk, hnR⟩ := xM_start hb0 hPr hP hD0
  rw [hAe] at hS ⊢
  have hl := lv_entry ([.ref mo, .int p1, .int p2]) (n := 4) (Nat.le_of_ble_eq_true rfl)
  rw [lg_entry_eq]
  generalize (lg_sl ([.ref mo, .int p1, .int p2]) ++ List.replicate (4 - (lg_sl ([.ref mo, .int p1, .int p2])).length) Slot.unset).toArray = ls at hl ⊢
  have hl : lv_has ls 4 [(0, .ref mo), (1, .int p1), (2, .int p2)] := hl
  refine lv_aload_n hx hb dX6_change_0 rfl (lv_at hl 0 rfl) ?_
  refine lv_iload_n hx hb dX6_change_1 rfl (lv_at hl 1 rfl) ?_
  refine xm_of (wc := [(mo, .inr (6, [.int th, .ref mr, .ref ml, .int wr, .int gm, .int gh, .int gw, .int bm, .int bd, .int bc, .int ca, .ref ms, .ref mv]))]) (wo := [(mv, .inl (cA 0, 20, .inl va))]) (va_runV (As := [.int p1]) (rest := []) ⟨hx, hb, hml, hown, xTs⟩ (c_isThere_c h mo mr ml ms mv th wr gm gh gw bm bd bc ca so p1 _ ht h0 h1 hi hs) ⟨xB (n := 1) (k_628 h hb0) (k_5 h hb0) (k_625 h hb0) (by decide) rfl rfl rfl (by decide) (by decide), (k_627 h hb0), (ks_4 h hb0)⟩ (xpMV (wr := [(ms, .inl (cA 0, 20, .inl so))]) (wc := [(mo, .inr (6, [.int th, .ref mr, .ref ml, .int wr, .int gm, .int gh, .int gw, .int bm, .int bd, .int bc, .int ca, .ref ms, .ref mv]))]) hb0 hS hz (va_P.sub (hRo _ _ hS) [0] rfl) (va_P.sub hP [1] rfl) (va_D.sub (xDD (xDl hD0) hD hz hnR) [0, 2] rfl rfl) (va_recv hK hP (ci := 6) (q0 := 1) rfl rfl)) rfl rfl hl.1 rfl (lv_room (Nat.le_of_ble_eq_true rfl)) dX6_change_2 ⟨(Nat.le_of_ble_eq_true rfl), (Nat.le_of_ble_eq_true rfl)⟩) hP hD hS hA [1] [0] rfl rfl rfl (by decide) (fun r w1 H locs hΦ hP hD hS => ?_)
  obtain ⟨rfl, rfl⟩ := hΦ
  have hP : va_P (dC, dI) vwCl [(mv, .inl (cA 0, 20, .inl va)), (mo, .inr (6, [.int 0, .ref mr, .ref ml, .int wr, .int gm, .int gh, .int gw, .int bm, .int bd, .int bc, .int ca, .ref ms, .ref mv]))] H := hP
  have hD : va_D A [(mv, .inl (cA 0, 20, .inl va)), (mo, .inr (6, [.int 0, .ref mr, .ref ml, .int wr, .int gm, .int gh, .int gw, .int bm, .int bd, .int bc, .int ca, .ref ms, .ref mv]))] := hD
  refine lv_if_ne (tgt := 10) hx hb dX6_change_5 (by decide) (fun c_1 => ?_) (fun c_1 => ?_)
  · refine lv_aload_n hx hb dX6_change_10 rfl (lv_at hl 0 rfl) ?_
    refine va_get (D := (dC, dI)) (ci := 6) (v := .ref mv) (C := RX6) (T := TX6) (N := 13) hx hb (ly_6 h hb0) (fun _ z => z) hown hK hP 1 rfl rfl 12 (by decide) (k_543 h hb0) (fun _ z => z) rfl dX6_change_11 ?_
    refine lv_iload_n hx hb dX6_change_14 rfl (lv_at hl 1 rfl) ?_
    refine va_iald hx hb hK hP 0 0 rfl rfl hi dX6_change_15 ?_
    refine lv_istore_n (lv' := [(3, .int (va p1.toNatClampNeg)), (0, .ref mo), (1, .int p1), (2, .int p2)]) hx hb dX6_change_16 rfl hl (by decide) rfl (fun ls hl => ?_)
    refine lv_aload_n hx hb dX6_change_17 rfl (lv_at hl 1 rfl) ?_
    refine va_get (D := (dC, dI)) (ci := 6) (v := .ref mv) (C := RX6) (T := TX6) (N := 13) hx hb (ly_6 h hb0) (fun _ z => z) hown hK hP 1 rfl rfl 12 (by decide) (k_543 h hb0) (fun _ z => z) rfl dX6_change_18 ?_
    refine lv_iload_n hx hb dX6_change_21 rfl (lv_at hl 2 rfl) ?_
    refine lv_iload_n hx hb dX6_change_22 rfl (lv_at hl 3 rfl) ?_
    refine va_iast hx hb hK hP hD hS 0 0 rfl rfl hi dX6_change_23 (fun H locs hP hD hS => ?_)
    have hP : va_P (dC, dI) vwCl [(mv, .inl (cA 0, 20, .inl (upd va p1.toNatClampNeg p2))), (mo, .inr (6, [.int 0, .ref mr, .ref ml, .int wr, .int gm, .int gh, .int gw, .int bm, .int bd, .int bc, .int ca, .ref ms, .ref mv]))] H := hP
    have hD : va_D A [(mv, .inl (cA 0, 20, .inl (upd va p1.toNatClampNeg p2))), (mo, .inr (6, [.int 0, .ref mr, .ref ml, .int wr, .int gm, .int gh, .int gw, .int bm, .int bd, .int bc, .int ca, .ref ms, .ref mv]))] := hD
    refine lv_iload_n hx hb dX6_change_24 rfl (lv_at hl 0 rfl) ?_
    exact W.iret hx hb hr (fun t ht _ => ⟨(some (.int (va p1.toNatClampNeg))), _, rfl, ⟨rfl, rfl⟩, by rw [ht]; exact hP, hD, hS.F ht⟩) (fun q z => hS.2.2 q z) dX6_change_25
  · exact absurd c_1 (by decide)
set_option maxHeartbeats 4000000 in
set_option maxRecDepth 100000 in
theorem m_weigh_N {l : Launch} {s0 : State} {a0 : Array Value} {dC : Nat → ClassId} {dI : Nat → Nat → Nat} {cA : Nat → ClassId} (h : xC l s0 a0 dC dI cA) (mo mr ml ms mv : Nat) (th wr gm gh gw bm bd bc ca : Int32) (so : Nat → Int32) (p1 p2 : Int32) (sz : Nat) (ht : bm = 0) : Met l yX6_weigh [Cond.code yX6_weigh cX6_weigh 3 (some .int)] ({ frames := 2, cells := 0, slots := 0, locals := 80 } : Room) (xPM s0 (dC, dI) [.ref mo, .int p1, .int p2] [(ms, .inl (cA 0, 20, .inl so))] [(mo, .inr (6, [.int th, .ref mr, .ref ml, .int wr, .int gm, .int gh, .int gw, .int bm, .int bd, .int bc, .int ca, .ref ms, .ref mv]))] sz) (xQM (dC, dI) (va_A [(mo, .inr (6, [.int th, .ref mr, .ref ml, .int wr, .int gm, .int gh, .int gw, .int bm, .int bd, .int bc, .int ca, .ref ms, .ref mv]))] sz) (fun r w1 => r = some (.int (0)) ∧ w1 = [(mo, .inr (6, [.int 1, .ref mr, .ref ml, .int wr, .int gm, .int gh, .int gw, .int bm, .int bd, .int bc, .int ca, .ref ms, .ref mv]))])) 0 0 (va_A [(mo, .inr (6, [.int th, .ref mr, .ref ml, .int wr, .int gm, .int gh, .int gw, .int bm, .int bd, .int bc, .int ca, .ref ms, .ref mv]))] sz) := by
  refine Met.ofW (cc := cX6_weigh) (maxL := 3) (ret := (some .int)) (by decide) rfl ?_
  intro p e s m args below meth c s₁ B hml hv
  obtain ⟨rfl, rfl, hb0, hPr, hP, hD0⟩ := hv
  have hx := B.exec
  have hb := B.bytes
  have hr := B.returns
  have hown : s.vm.findClass RX6 = some m.cls := findClass_of_methodNamed B.named
  have hlocks := B.notSynchronized
  have hK := h.K hb0
  have hS : va_S (va_A [(mo, .inr (6, [.int th, .ref mr, .ref ml, .int wr, .int gm, .int gh, .int gw, .int bm, .int bd, .int bc, .int ca, .ref ms, .ref mv]))] s.heap.size) s.heap s.heap [] := va_S.rf
  obtain ⟨A, hAe, hD, hA, hz, hRo, hwk, hnR⟩ := xM_start hb0 hPr hP hD0
  rw [hAe] at hS ⊢
  have hl := lv_entry ([.ref mo, .int p1, .int p2]) (n := 3) (Nat.le_of_ble_eq_true rfl)
  rw [lg_entry_eq]
  generalize (lg_sl ([.ref mo, .int p1, .int p2]) ++ List.replicate (3 - (lg_sl ([.ref mo, .int p1, .int p2])).length) Slot.unset).toArray = ls at hl ⊢
  have hl : lv_has ls 3 [(0, .ref mo), (1, .int p1), (2, .int p2)] := hl
  refine lv_aload_n hx hb dX6_weigh_0 rfl (lv_at hl 0 rfl) ?_
  refine lv_iload_n hx hb dX6_weigh_1 rfl (lv_at hl 1 rfl) ?_
  refine xm_of (wc := [(mo, .inr (6, [.int th, .ref mr, .ref ml, .int wr, .int gm, .int gh, .int gw, .int bm, .int bd, .int bc, .int ca, .ref ms, .ref mv]))]) (wo := []) (va_runV (As := [.int p1]) (rest := []) ⟨hx, hb, hml, hown, xTs⟩ (c_isThere_N h mo mr ml ms mv th wr gm gh gw bm bd bc ca so p1 _ ht) ⟨xB (n := 1) (k_628 h hb0) (k_5 h hb0) (k_625 h hb0) (by decide) rfl rfl rfl (by decide) (by decide), (k_627 h hb0), (ks_4 h hb0)⟩ (xpMV (wr := [(ms, .inl (cA 0, 20, .inl so))]) (wc := [(mo, .inr (6, [.int th, .ref mr, .ref ml, .int wr, .int gm, .int gh, .int gw, .int bm, .int bd, .int bc, .int ca, .ref ms, .ref mv]))]) hb0 hS hz (va_P.sub (hRo _ _ hS) [0] rfl) (va_P.sub hP [0] rfl) (va_D.sub (xDD (xDl hD0) hD hz hnR) [0, 1] rfl rfl) (va_recv hK hP (ci := 6) (q0 := 0) rfl rfl)) rfl rfl hl.1 rfl (lv_room (Nat.le_of_ble_eq_true rfl)) dX6_weigh_2 ⟨(Nat.le_of_ble_eq_true rfl), (Nat.le_of_ble_eq_true rfl)⟩) hP hD hS hA [0] [] rfl rfl rfl (by decide) (fun r w1 H locs hΦ hP hD hS => ?_)
  obtain ⟨rfl, rfl⟩ := hΦ
  have hP : va_P (dC, dI) vwCl [(mo, .inr (6, [.int 1, .ref mr, .ref ml, .int wr, .int gm, .int gh, .int gw, .int bm, .int bd, .int bc, .int ca, .ref ms, .ref mv]))] H := hP
  have hD : va_D A [(mo, .inr (6, [.int 1, .ref mr, .ref ml, .int wr, .int gm, .int gh, .int gw, .int bm, .int bd, .int bc, .int ca, .ref ms, .ref mv]))] := hD
  refine lv_if_ne (tgt := 10) hx hb dX6_weigh_5 (by decide) (fun c_1 => ?_) (fun c_1 => ?_)
  · exact absurd rfl c_1
  · refine lv_iconst (v := 0) hx hb dX6_weigh_8 (by decide) ?_
    exact W.iret hx hb hr (fun t ht _ => ⟨(some (.int 0)), _, rfl, ⟨rfl, rfl⟩, by rw [ht]; exact hP, hD, hS.F ht⟩) (fun q z => hS.2.2 q z) dX6_weigh_9
set_option maxHeartbeats 4000000 in
set_option maxRecDepth 100000 in
theorem m_weigh_A {l : Launch} {s0 : State} {a0 : Array Value} {dC : Nat → ClassId} {dI : Nat → Nat → Nat} {cA : Nat → ClassId} (h : xC l s0 a0 dC dI cA) (mo mr ml ms mv : Nat) (th wr gm gh gw bm bd bc ca : Int32) (so : Nat → Int32) (p1 p2 : Int32) (sz : Nat) (ht : ¬ bm = 0) (hc : p1 < 0 ∨ ¬ p1 < bc) : Met l yX6_weigh [Cond.code yX6_weigh cX6_weigh 3 (some .int)] ({ frames := 2, cells := 0, slots := 0, locals := 80 } : Room) (xPM s0 (dC, dI) [.ref mo, .int p1, .int p2] [(ms, .inl (cA 0, 20, .inl so))] [(mo, .inr (6, [.int th, .ref mr, .ref ml, .int wr, .int gm, .int gh, .int gw, .int bm, .int bd, .int bc, .int ca, .ref ms, .ref mv]))] sz) (xQM (dC, dI) (va_A [(mo, .inr (6, [.int th, .ref mr, .ref ml, .int wr, .int gm, .int gh, .int gw, .int bm, .int bd, .int bc, .int ca, .ref ms, .ref mv]))] sz) (fun r w1 => r = some (.int (0)) ∧ w1 = [(mo, .inr (6, [.int 2, .ref mr, .ref ml, .int wr, .int gm, .int gh, .int gw, .int bm, .int bd, .int bc, .int ca, .ref ms, .ref mv]))])) 0 0 (va_A [(mo, .inr (6, [.int th, .ref mr, .ref ml, .int wr, .int gm, .int gh, .int gw, .int bm, .int bd, .int bc, .int ca, .ref ms, .ref mv]))] sz) := by
  refine Met.ofW (cc := cX6_weigh) (maxL := 3) (ret := (some .int)) (by decide) rfl ?_
  intro p e s m args below meth c s₁ B hml hv
  obtain ⟨rfl, rfl, hb0, hPr, hP, hD0⟩ := hv
  have hx := B.exec
  have hb := B.bytes
  have hr := B.returns
  have hown : s.vm.findClass RX6 = some m.cls := findClass_of_methodNamed B.named
  have hlocks := B.notSynchronized
  have hK := h.K hb0
  have hS : va_S (va_A [(mo, .inr (6, [.int th, .ref mr, .ref ml, .int wr, .int gm, .int gh, .int gw, .int bm, .int bd, .int bc, .int ca, .ref ms, .ref mv]))] s.heap.size) s.heap s.heap [] := va_S.rf
  obtain ⟨A, hAe, hD, hA, hz, hRo, hwk, hnR⟩ := xM_start hb0 hPr hP hD0
  rw [hAe] at hS ⊢
  have hl := lv_entry ([.ref mo, .int p1, .int p2]) (n := 3) (Nat.le_of_ble_eq_true rfl)
  rw [lg_entry_eq]
  generalize (lg_sl ([.ref mo, .int p1, .int p2]) ++ List.replicate (3 - (lg_sl ([.ref mo, .int p1, .int p2])).length) Slot.unset).toArray = ls at hl ⊢
  have hl : lv_has ls 3 [(0, .ref mo), (1, .int p1), (2, .int p2)] := hl
  refine lv_aload_n hx hb dX6_weigh_0 rfl (lv_at hl 0 rfl) ?_
  refine lv_iload_n hx hb dX6_weigh_1 rfl (lv_at hl 1 rfl) ?_
  refine xm_of (wc := [(mo, .inr (6, [.int th, .ref mr, .ref ml, .int wr, .int gm, .int gh, .int gw, .int bm, .int bd, .int bc, .int ca, .ref ms, .ref mv]))]) (wo := []) (va_runV (As := [.int p1]) (rest := []) ⟨hx, hb, hml, hown, xTs⟩ (c_isThere_A h mo mr ml ms mv th wr gm gh gw bm bd bc ca so p1 _ ht hc) ⟨xB (n := 1) (k_628 h hb0) (k_5 h hb0) (k_625 h hb0) (by decide) rfl rfl rfl (by decide) (by decide), (k_627 h hb0), (ks_4 h hb0)⟩ (xpMV (wr := [(ms, .inl (cA 0, 20, .inl so))]) (wc := [(mo, .inr (6, [.int th, .ref mr, .ref ml, .int wr, .int gm, .int gh, .int gw, .int bm, .int bd, .int bc, .int ca, .ref ms, .ref mv]))]) hb0 hS hz (va_P.sub (hRo _ _ hS) [0] rfl) (va_P.sub hP [0] rfl) (va_D.sub (xDD (xDl hD0) hD hz hnR) [0, 1] rfl rfl) (va_recv hK hP (ci := 6) (q0 := 0) rfl rfl)) rfl rfl hl.1 rfl (lv_room (Nat.le_of_ble_eq_true rfl)) dX6_weigh_2 ⟨(Nat.le_of_ble_eq_true rfl), (Nat.le_of_ble_eq_true rfl)⟩) hP hD hS hA [0] [] rfl rfl rfl (by decide) (fun r w1 H locs hΦ hP hD hS => ?_)
  obtain ⟨rfl, rfl⟩ := hΦ
  have hP : va_P (dC, dI) vwCl [(mo, .inr (6, [.int 2, .ref mr, .ref ml, .int wr, .int gm, .int gh, .int gw, .int bm, .int bd, .int bc, .int ca, .ref ms, .ref mv]))] H := hP
  have hD : va_D A [(mo, .inr (6, [.int 2, .ref mr, .ref ml, .int wr, .int gm, .int gh, .int gw, .int bm, .int bd, .int bc, .int ca, .ref ms, .ref mv]))] := hD
  refine lv_if_ne (tgt := 10) hx hb dX6_weigh_5 (by decide) (fun c_1 => ?_) (fun c_1 => ?_)
  · exact absurd rfl c_1
  · refine lv_iconst (v := 0) hx hb dX6_weigh_8 (by decide) ?_
    exact W.iret hx hb hr (fun t ht _ => ⟨(some (.int 0)), _, rfl, ⟨rfl, rfl⟩, by rw [ht]; exact hP, hD, hS.F ht⟩) (fun q z => hS.2.2 q z) dX6_weigh_9
set_option maxHeartbeats 4000000 in
set_option maxRecDepth 100000 in
theorem m_weigh_2 {l : Launch} {s0 : State} {a0 : Array Value} {dC : Nat → ClassId} {dI : Nat → Nat → Nat} {cA : Nat → ClassId} (h : xC l s0 a0 dC dI cA) (mo mr ml ms mv : Nat) (th wr gm gh gw bm bd bc ca : Int32) (so : Nat → Int32) (p1 p2 : Int32) (sz : Nat) (ht : ¬ bm = 0) (h0 : ¬ p1 < 0) (h1 : p1 < bc) (hi : vp_in p1 20) (hs : so p1.toNatClampNeg = 0) : Met l yX6_weigh [Cond.code yX6_weigh cX6_weigh 3 (some .int)] ({ frames := 2, cells := 0, slots := 0, locals := 80 } : Room) (xPM s0 (dC, dI) [.ref mo, .int p1, .int p2] [(ms, .inl (cA 0, 20, .inl so))] [(mo, .inr (6, [.int th, .ref mr, .ref ml, .int wr, .int gm, .int gh, .int gw, .int bm, .int bd, .int bc, .int ca, .ref ms, .ref mv]))] sz) (xQM (dC, dI) (va_A [(mo, .inr (6, [.int th, .ref mr, .ref ml, .int wr, .int gm, .int gh, .int gw, .int bm, .int bd, .int bc, .int ca, .ref ms, .ref mv]))] sz) (fun r w1 => r = some (.int (0)) ∧ w1 = [(mo, .inr (6, [.int 1, .ref mr, .ref ml, .int wr, .int gm, .int gh, .int gw, .int bm, .int bd, .int bc, .int ca, .ref ms, .ref mv]))])) 0 0 (va_A [(mo, .inr (6, [.int th, .ref mr, .ref ml, .int wr, .int gm, .int gh, .int gw, .int bm, .int bd, .int bc, .int ca, .ref ms, .ref mv]))] sz) := by
  refine Met.ofW (cc := cX6_weigh) (maxL := 3) (ret := (some .int)) (by decide) rfl ?_
  intro p e s m args below meth c s₁ B hml hv
  obtain ⟨rfl, rfl, hb0, hPr, hP, hD0⟩ := hv
  have hx := B.exec
  have hb := B.bytes
  have hr := B.returns
  have hown : s.vm.findClass RX6 = some m.cls := findClass_of_methodNamed B.named
  have hlocks := B.notSynchronized
  have hK := h.K hb0
  have hS : va_S (va_A [(mo, .inr (6, [.int th, .ref mr, .ref ml, .int wr, .int gm, .int gh, .int gw, .int bm, .int bd, .int bc, .int ca, .ref ms, .ref mv]))] s.heap.size) s.heap s.heap [] := va_S.rf
  obtain ⟨A, hAe, hD, hA, hz, hRo, hwk, hnR⟩ := xM_start hb0 hPr hP hD0
  rw [hAe] at hS ⊢
  have hl := lv_entry ([.ref mo, .int p1, .int p2]) (n := 3) (Nat.le_of_ble_eq_true rfl)
  rw [lg_entry_eq]
  generalize (lg_sl ([.ref mo, .int p1, .int p2]) ++ List.replicate (3 - (lg_sl ([.ref mo, .int p1, .int p2])).length) Slot.unset).toArray = ls at hl ⊢
  have hl : lv_has ls 3 [(0, .ref mo), (1, .int p1), (2, .int p2)] := hl
  refine lv_aload_n hx hb dX6_weigh_0 rfl (lv_at hl 0 rfl) ?_
  refine lv_iload_n hx hb dX6_weigh_1 rfl (lv_at hl 1 rfl) ?_
  refine xm_of (wc := [(mo, .inr (6, [.int th, .ref mr, .ref ml, .int wr, .int gm, .int gh, .int gw, .int bm, .int bd, .int bc, .int ca, .ref ms, .ref mv]))]) (wo := []) (va_runV (As := [.int p1]) (rest := []) ⟨hx, hb, hml, hown, xTs⟩ (c_isThere_2 h mo mr ml ms mv th wr gm gh gw bm bd bc ca so p1 _ ht h0 h1 hi hs) ⟨xB (n := 1) (k_628 h hb0) (k_5 h hb0) (k_625 h hb0) (by decide) rfl rfl rfl (by decide) (by decide), (k_627 h hb0), (ks_4 h hb0)⟩ (xpMV (wr := [(ms, .inl (cA 0, 20, .inl so))]) (wc := [(mo, .inr (6, [.int th, .ref mr, .ref ml, .int wr, .int gm, .int gh, .int gw, .int bm, .int bd, .int bc, .int ca, .ref ms, .ref mv]))]) hb0 hS hz (va_P.sub (hRo _ _ hS) [0] rfl) (va_P.sub hP [0] rfl) (va_D.sub (xDD (xDl hD0) hD hz hnR) [0, 1] rfl rfl) (va_recv hK hP (ci := 6) (q0 := 0) rfl rfl)) rfl rfl hl.1 rfl (lv_room (Nat.le_of_ble_eq_true rfl)) dX6_weigh_2 ⟨(Nat.le_of_ble_eq_true rfl), (Nat.le_of_ble_eq_true rfl)⟩) hP hD hS hA [0] [] rfl rfl rfl (by decide) (fun r w1 H locs hΦ hP hD hS => ?_)
  obtain ⟨rfl, rfl⟩ := hΦ
  have hP : va_P (dC, dI) vwCl [(mo, .inr (6, [.int 1, .ref mr, .ref ml, .int wr, .int gm, .int gh, .int gw, .int bm, .int bd, .int bc, .int ca, .ref ms, .ref mv]))] H := hP
  have hD : va_D A [(mo, .inr (6, [.int 1, .ref mr, .ref ml, .int wr, .int gm, .int gh, .int gw, .int bm, .int bd, .int bc, .int ca, .ref ms, .ref mv]))] := hD
  refine lv_if_ne (tgt := 10) hx hb dX6_weigh_5 (by decide) (fun c_1 => ?_) (fun c_1 => ?_)
  · exact absurd rfl c_1
  · refine lv_iconst (v := 0) hx hb dX6_weigh_8 (by decide) ?_
    exact W.iret hx hb hr (fun t ht _ => ⟨(some (.int 0)), _, rfl, ⟨rfl, rfl⟩, by rw [ht]; exact hP, hD, hS.F ht⟩) (fun q z => hS.2.2 q z) dX6_weigh_9
set_option maxHeartbeats 4000000 in
set_option maxRecDepth 100000 in
theorem m_weigh_b {l : Launch} {s0 : State} {a0 : Array Value} {dC : Nat → ClassId} {dI : Nat → Nat → Nat} {cA : Nat → ClassId} (h : xC l s0 a0 dC dI cA) (mo mr ml ms mv : Nat) (th wr gm gh gw bm bd bc ca : Int32) (so : Nat → Int32) (va : Nat → Int32) (p1 p2 : Int32) (sz : Nat) (ht : ¬ bm = 0) (h0 : ¬ p1 < 0) (h1 : p1 < bc) (hi : vp_in p1 20) (hs : so p1.toNatClampNeg = 1) : Met l yX6_weigh [Cond.code yX6_weigh cX6_weigh 3 (some .int)] ({ frames := 2, cells := 0, slots := 0, locals := 80 } : Room) (xPM s0 (dC, dI) [.ref mo, .int p1, .int p2] [(ms, .inl (cA 0, 20, .inl so)), (mv, .inl (cA 0, 20, .inl va))] [(mo, .inr (6, [.int th, .ref mr, .ref ml, .int wr, .int gm, .int gh, .int gw, .int bm, .int bd, .int bc, .int ca, .ref ms, .ref mv]))] sz) (xQM (dC, dI) (va_A [(mo, .inr (6, [.int th, .ref mr, .ref ml, .int wr, .int gm, .int gh, .int gw, .int bm, .int bd, .int bc, .int ca, .ref ms, .ref mv]))] sz) (fun r w1 => r = some (.int (va p1.toNatClampNeg * 3 + p2)) ∧ w1 = [(mo, .inr (6, [.int 0, .ref mr, .ref ml, .int wr, .int gm, .int gh, .int gw, .int bm, .int bd, .int bc, .int ca, .ref ms, .ref mv]))])) 0 0 (va_A [(mo, .inr (6, [.int th, .ref mr, .ref ml, .int wr, .int gm, .int gh, .int gw, .int bm, .int bd, .int bc, .int ca, .ref ms, .ref mv]))] sz) := by
  refine Met.ofW (cc := cX6_weigh) (maxL := 3) (ret := (some .int)) (by decide) rfl ?_
  intro p e s m args below meth c s₁ B hml hv
  obtain ⟨rfl, rfl, hb0, hPr, hP, hD0⟩ := hv
  have hx := B.exec
  have hb := B.bytes
  have hr := B.returns
  have hown : s.vm.findClass RX6 = some m.cls := findClass_of_methodNamed B.named
  have hlocks := B.notSynchronized
  have hK := h.K hb0
  have hS : va_S (va_A [(mo, .inr (6, [.int th, .ref mr, .ref ml, .int wr, .int gm, .int gh, .int gw, .int bm, .int bd, .int bc, .int ca, .ref ms, .ref mv]))] s.heap.size) s.heap s.heap [] := va_S.rf
  obtain ⟨A, hAe, hD, hA, hz, hRo, hwk, hnR⟩ := xM_start hb0 hPr hP hD0
  rw [hAe] at hS ⊢
  have hl := lv_entry ([.ref mo, .int p1, .int p2]) (n := 3) (Nat.le_of_ble_eq_true rfl)
  rw [lg_entry_eq]
  generalize (lg_sl ([.ref mo, .int p1, .int p2]) ++ List.replicate (3 - (lg_sl ([.ref mo, .int p1, .int p2])).length) Slot.unset).toArray = ls at hl ⊢
  have hl : lv_has ls 3 [(0, .ref mo), (1, .int p1), (2, .int p2)] := hl
  refine lv_aload_n hx hb dX6_weigh_0 rfl (lv_at hl 0 rfl) ?_
  refine lv_iload_n hx hb dX6_weigh_1 rfl (lv_at hl 1 rfl) ?_
  refine xm_of (wc := [(mo, .inr (6, [.int th, .ref mr, .ref ml, .int wr, .int gm, .int gh, .int gw, .int bm, .int bd, .int bc, .int ca, .ref ms, .ref mv]))]) (wo := []) (va_runV (As := [.int p1]) (rest := []) ⟨hx, hb, hml, hown, xTs⟩ (c_isThere_c h mo mr ml ms mv th wr gm gh gw bm bd bc ca so p1 _ ht h0 h1 hi (by rw [hs]; decide)) ⟨xB (n := 1) (k_628 h hb0) (k_5 h hb0) (k_625 h hb0) (by decide) rfl rfl rfl (by decide) (by decide), (k_627 h hb0), (ks_4 h hb0)⟩ (xpMV (wr := [(ms, .inl (cA 0, 20, .inl so))]) (wc := [(mo, .inr (6, [.int th, .ref mr, .ref ml, .int wr, .int gm, .int gh, .int gw, .int bm, .int bd, .int bc, .int ca, .ref ms, .ref mv]))]) hb0 hS hz (va_P.sub (hRo _ _ hS) [0] rfl) (va_P.sub hP [0] rfl) (va_D.sub (xDD (xDl hD0) hD hz hnR) [0, 2] rfl rfl) (va_recv hK hP (ci := 6) (q0 := 0) rfl rfl)) rfl rfl hl.1 rfl (lv_room (Nat.le_of_ble_eq_true rfl)) dX6_weigh_2 ⟨(Nat.le_of_ble_eq_true rfl), (Nat.le_of_ble_eq_true rfl)⟩) hP hD hS hA [0] [] rfl rfl rfl (by decide) (fun r w1 H locs hΦ hP hD hS => ?_)
  obtain ⟨rfl, rfl⟩ := hΦ
  have hP : va_P (dC, dI) vwCl [(mo, .inr (6, [.int 0, .ref mr, .ref ml, .int wr, .int gm, .int gh, .int gw, .int bm, .int bd, .int bc, .int ca, .ref ms, .ref mv]))] H := hP
  have hD : va_D A [(mo, .inr (6, [.int 0, .ref mr, .ref ml, .int wr, .int gm, .int gh, .int gw, .int bm, .int bd, .int bc, .int ca, .ref ms, .ref mv]))] := hD
  refine lv_if_ne (tgt := 10) hx hb dX6_weigh_5 (by decide) (fun c_1 => ?_) (fun c_1 => ?_)
  · refine lv_aload_n hx hb dX6_weigh_10 rfl (lv_at hl 0 rfl) ?_
    refine va_get (D := (dC, dI)) (ci := 6) (v := .ref ms) (C := RX6) (T := TX6) (N := 13) hx hb (ly_6 h hb0) (fun _ z => z) hown hK hP 0 rfl rfl 11 (by decide) (k_542 h hb0) (fun _ z => z) rfl dX6_weigh_11 ?_
    refine lv_iload_n hx hb dX6_weigh_14 rfl (lv_at hl 1 rfl) ?_
    refine va_iald hx hb hK (hRo _ _ hS) 0 0 rfl rfl hi dX6_weigh_15 ?_
    refine lv_iconst (v := 1) hx hb dX6_weigh_16 (by decide) ?_
    refine lv_icmp_ne (tgt := 33) hx hb dX6_weigh_17 (by decide) (fun c_2 => ?_) (fun c_2 => ?_)
    · exact absurd hs c_2
    · refine lv_aload_n hx hb dX6_weigh_20 rfl (lv_at hl 0 rfl) ?_
      refine va_get (D := (dC, dI)) (ci := 6) (v := .ref mv) (C := RX6) (T := TX6) (N := 13) hx hb (ly_6 h hb0) (fun _ z => z) hown hK hP 0 rfl rfl 12 (by decide) (k_543 h hb0) (fun _ z => z) rfl dX6_weigh_21 ?_
      refine lv_iload_n hx hb dX6_weigh_24 rfl (lv_at hl 1 rfl) ?_
      refine va_iald hx hb hK (hRo _ _ hS) 1 0 rfl rfl hi dX6_weigh_25 ?_
      refine lv_iconst (v := 3) hx hb dX6_weigh_26 (by decide) ?_
      refine lv_imul hx hb dX6_weigh_27 ?_
      refine lv_iload_n hx hb dX6_weigh_28 rfl (lv_at hl 2 rfl) ?_
      refine lv_iadd hx hb dX6_weigh_29 ?_
      refine lv_goto (tgt := 43) hx hb dX6_weigh_30 (by decide) ?_
      exact W.iret hx hb hr (fun t ht _ => ⟨(some (.int (((va p1.toNatClampNeg) * 3) + p2))), _, rfl, ⟨rfl, rfl⟩, by rw [ht]; exact hP, hD, hS.F ht⟩) (fun q z => hS.2.2 q z) dX6_weigh_43
  · exact absurd c_1 (by decide)
set_option maxHeartbeats 4000000 in
set_option maxRecDepth 100000 in
theorem m_weigh_d {l : Launch} {s0 : State} {a0 : Array Value} {dC : Nat → ClassId} {dI : Nat → Nat → Nat} {cA : Nat → ClassId} (h : xC l s0 a0 dC dI cA) (mo mr ml ms mv : Nat) (th wr gm gh gw bm bd bc ca : Int32) (so : Nat → Int32) (va : Nat → Int32) (p1 p2 : Int32) (sz : Nat) (ht : ¬ bm = 0) (h0 : ¬ p1 < 0) (h1 : p1 < bc) (hi : vp_in p1 20) (hs : so p1.toNatClampNeg = 2) : Met l yX6_weigh [Cond.code yX6_weigh cX6_weigh 3 (some .int)] ({ frames := 2, cells := 0, slots := 0, locals := 80 } : Room) (xPM s0 (dC, dI) [.ref mo, .int p1, .int p2] [(ms, .inl (cA 0, 20, .inl so)), (mv, .inl (cA 0, 20, .inl va))] [(mo, .inr (6, [.int th, .ref mr, .ref ml, .int wr, .int gm, .int gh, .int gw, .int bm, .int bd, .int bc, .int ca, .ref ms, .ref mv]))] sz) (xQM (dC, dI) (va_A [(mo, .inr (6, [.int th, .ref mr, .ref ml, .int wr, .int gm, .int gh, .int gw, .int bm, .int bd, .int bc, .int ca, .ref ms, .ref mv]))] sz) (fun r w1 => r = some (.int (va p1.toNatClampNeg * 5 - p2)) ∧ w1 = [(mo, .inr (6, [.int 0, .ref mr, .ref ml, .int wr, .int gm, .int gh, .int gw, .int bm, .int bd, .int bc, .int ca, .ref ms, .ref mv]))])) 0 0 (va_A [(mo, .inr (6, [.int th, .ref mr, .ref ml, .int wr, .int gm, .int gh, .int gw, .int bm, .int bd, .int bc, .int ca, .ref ms, .ref mv]))] sz) := by
  refine Met.ofW (cc := cX6_weigh) (maxL := 3) (ret := (some .int)) (by decide) rfl ?_
  intro p e s m args below meth c s₁ B hml hv
  obtain ⟨rfl, rfl, hb0, hPr, hP, hD0⟩ := hv
  have hx := B.exec
  have hb := B.bytes
  have hr := B.returns
  have hown : s.vm.findClass RX6 = some m.cls := findClass_of_methodNamed B.named
  have hlocks := B.notSynchronized
  have hK := h.K hb0
  have hS : va_S (va_A [(mo, .inr (6, [.int th, .ref mr, .ref ml, .int wr, .int gm, .int gh, .int gw, .int bm, .int bd, .int bc, .int ca, .ref ms, .ref mv]))] s.heap.size) s.heap s.heap [] := va_S.rf
  obtain ⟨A, hAe, hD, hA, hz, hRo, hwk, hnR⟩ := xM_start hb0 hPr hP hD0
  rw [hAe] at hS ⊢
  have hl := lv_entry ([.ref mo, .int p1, .int p2]) (n := 3) (Nat.le_of_ble_eq_true rfl)
  rw [lg_entry_eq]
  generalize (lg_sl ([.ref mo, .int p1, .int p2]) ++ List.replicate (3 - (lg_sl ([.ref mo, .int p1, .int p2])).length) Slot.unset).toArray = ls at hl ⊢
  have hl : lv_has ls 3 [(0, .ref mo), (1, .int p1), (2, .int p2)] := hl
  refine lv_aload_n hx hb dX6_weigh_0 rfl (lv_at hl 0 rfl) ?_
  refine lv_iload_n hx hb dX6_weigh_1 rfl (lv_at hl 1 rfl) ?_
  refine xm_of (wc := [(mo, .inr (6, [.int th, .ref mr, .ref ml, .int wr, .int gm, .int gh, .int gw, .int bm, .int bd, .int bc, .int ca, .ref ms, .ref mv]))]) (wo := []) (va_runV (As := [.int p1]) (rest := []) ⟨hx, hb, hml, hown, xTs⟩ (c_isThere_c h mo mr ml ms mv th wr gm gh gw bm bd bc ca so p1 _ ht h0 h1 hi (by rw [hs]; decide)) ⟨xB (n := 1) (k_628 h hb0) (k_5 h hb0) (k_625 h hb0) (by decide) rfl rfl rfl (by decide) (by decide), (k_627 h hb0), (ks_4 h hb0)⟩ (xpMV (wr := [(ms, .inl (cA 0, 20, .inl so))]) (wc := [(mo, .inr (6, [.int th, .ref mr, .ref ml, .int wr, .int gm, .int gh, .int gw, .int bm, .int bd, .int bc, .int ca, .ref ms, .ref mv]))]) hb0 hS hz (va_P.sub (hRo _ _ hS) [0] rfl) (va_P.sub hP [0] rfl) (va_D.sub (xDD (xDl hD0) hD hz hnR) [0, 2] rfl rfl) (va_recv hK hP (ci := 6) (q0 := 0) rfl rfl)) rfl rfl hl.1 rfl (lv_room (Nat.le_of_ble_eq_true rfl)) dX6_weigh_2 ⟨(Nat.le_of_ble_eq_true rfl), (Nat.le_of_ble_eq_true rfl)⟩) hP hD hS hA [0] [] rfl rfl rfl (by decide) (fun r w1 H locs hΦ hP hD hS => ?_)
  obtain ⟨rfl, rfl⟩ := hΦ
  have hP : va_P (dC, dI) vwCl [(mo, .inr (6, [.int 0, .ref mr, .ref ml, .int wr, .int gm, .int gh, .int gw, .int bm, .int bd, .int bc, .int ca, .ref ms, .ref mv]))] H := hP
  have hD : va_D A [(mo, .inr (6, [.int 0, .ref mr, .ref ml, .int wr, .int gm, .int gh, .int gw, .int bm, .int bd, .int bc, .int ca, .ref ms, .ref mv]))] := hD
  refine lv_if_ne (tgt := 10) hx hb dX6_weigh_5 (by decide) (fun c_1 => ?_) (fun c_1 => ?_)
  · refine lv_aload_n hx hb dX6_weigh_10 rfl (lv_at hl 0 rfl) ?_
    refine va_get (D := (dC, dI)) (ci := 6) (v := .ref ms) (C := RX6) (T := TX6) (N := 13) hx hb (ly_6 h hb0) (fun _ z => z) hown hK hP 0 rfl rfl 11 (by decide) (k_542 h hb0) (fun _ z => z) rfl dX6_weigh_11 ?_
    refine lv_iload_n hx hb dX6_weigh_14 rfl (lv_at hl 1 rfl) ?_
    refine va_iald hx hb hK (hRo _ _ hS) 0 0 rfl rfl hi dX6_weigh_15 ?_
    refine lv_iconst (v := 1) hx hb dX6_weigh_16 (by decide) ?_
    refine lv_icmp_ne (tgt := 33) hx hb dX6_weigh_17 (by decide) (fun c_2 => ?_) (fun c_2 => ?_)
    · refine lv_aload_n hx hb dX6_weigh_33 rfl (lv_at hl 0 rfl) ?_
      refine va_get (D := (dC, dI)) (ci := 6) (v := .ref mv) (C := RX6) (T := TX6) (N := 13) hx hb (ly_6 h hb0) (fun _ z => z) hown hK hP 0 rfl rfl 12 (by decide) (k_543 h hb0) (fun _ z => z) rfl dX6_weigh_34 ?_
      refine lv_iload_n hx hb dX6_weigh_37 rfl (lv_at hl 1 rfl) ?_
      refine va_iald hx hb hK (hRo _ _ hS) 1 0 rfl rfl hi dX6_weigh_38 ?_
      refine lv_iconst (v := 5) hx hb dX6_weigh_39 (by decide) ?_
      refine lv_imul hx hb dX6_weigh_40 ?_
      refine lv_iload_n hx hb dX6_weigh_41 rfl (lv_at hl 2 rfl) ?_
      refine lv_isub hx hb dX6_weigh_42 ?_
      exact W.iret hx hb hr (fun t ht _ => ⟨(some (.int (((va p1.toNatClampNeg) * 5) - p2))), _, rfl, ⟨rfl, rfl⟩, by rw [ht]; exact hP, hD, hS.F ht⟩) (fun q z => hS.2.2 q z) dX6_weigh_43
    · exact absurd (hs.symm.trans c_2) (by decide)
  · exact absurd c_1 (by decide)
set_option maxHeartbeats 4000000 in
set_option maxRecDepth 100000 in
theorem m_roll_N {l : Launch} {s0 : State} {a0 : Array Value} {dC : Nat → ClassId} {dI : Nat → Nat → Nat} {cA : Nat → ClassId} (h : xC l s0 a0 dC dI cA) (mo mr ml ms mv : Nat) (th wr gm gh gw bm bd bc ca : Int32) (so : Nat → Int32) (p1 p2 : Int32) (sz : Nat) (ht : bm = 0) : Met l yX6_roll [Cond.code yX6_roll cX6_roll 3 (some .int)] ({ frames := 2, cells := 0, slots := 0, locals := 80 } : Room) (xPM s0 (dC, dI) [.ref mo, .int p1, .int p2] [(ms, .inl (cA 0, 20, .inl so))] [(mo, .inr (6, [.int th, .ref mr, .ref ml, .int wr, .int gm, .int gh, .int gw, .int bm, .int bd, .int bc, .int ca, .ref ms, .ref mv]))] sz) (xQM (dC, dI) (va_A [(mo, .inr (6, [.int th, .ref mr, .ref ml, .int wr, .int gm, .int gh, .int gw, .int bm, .int bd, .int bc, .int ca, .ref ms, .ref mv]))] sz) (fun r w1 => r = some (.int (0)) ∧ w1 = [(mo, .inr (6, [.int 1, .ref mr, .ref ml, .int wr, .int gm, .int gh, .int gw, .int bm, .int bd, .int bc, .int ca, .ref ms, .ref mv]))])) 0 0 (va_A [(mo, .inr (6, [.int th, .ref mr, .ref ml, .int wr, .int gm, .int gh, .int gw, .int bm, .int bd, .int bc, .int ca, .ref ms, .ref mv]))] sz) := by
  refine Met.ofW (cc := cX6_roll) (maxL := 3) (ret := (some .int)) (by decide) rfl ?_
  intro p e s m args below meth c s₁ B hml hv
  obtain ⟨rfl, rfl, hb0, hPr, hP, hD0⟩ := hv
  have hx := B.exec
  have hb := B.bytes
  have hr := B.returns
  have hown : s.vm.findClass RX6 = some m.cls := findClass_of_methodNamed B.named
  have hlocks := B.notSynchronized
  have hK := h.K hb0
  have hS : va_S (va_A [(mo, .inr (6, [.int th, .ref mr, .ref ml, .int wr, .int gm, .int gh, .int gw, .int bm, .int bd, .int bc, .int ca, .ref ms, .ref mv]))] s.heap.size) s.heap s.heap [] := va_S.rf
  obtain ⟨A, hAe, hD, hA, hz, hRo, hwk, hnR⟩ := xM_start hb0 hPr hP hD0
  rw [hAe] at hS ⊢
  have hl := lv_entry ([.ref mo, .int p1, .int p2]) (n := 3) (Nat.le_of_ble_eq_true rfl)
  rw [lg_entry_eq]
  generalize (lg_sl ([.ref mo, .int p1, .int p2]) ++ List.replicate (3 - (lg_sl ([.ref mo, .int p1, .int p2])).length) Slot.unset).toArray = ls at hl ⊢
  have hl : lv_has ls 3 [(0, .ref mo), (1, .int p1), (2, .int p2)] := hl
  refine lv_aload_n hx hb dX6_roll_0 rfl (lv_at hl 0 rfl) ?_
  refine lv_iload_n hx hb dX6_roll_1 rfl (lv_at hl 1 rfl) ?_
  refine xm_of (wc := [(mo, .inr (6, [.int th, .ref mr, .ref ml, .int wr, .int gm, .int gh, .int gw, .int bm, .int bd, .int bc, .int ca, .ref ms, .ref mv]))]) (wo := []) (va_runV (As := [.int p1]) (rest := []) ⟨hx, hb, hml, hown, xTs⟩ (c_isThere_N h mo mr ml ms mv th wr gm gh gw bm bd bc ca so p1 _ ht) ⟨xB (n := 1) (k_628 h hb0) (k_5 h hb0) (k_625 h hb0) (by decide) rfl rfl rfl (by decide) (by decide), (k_627 h hb0), (ks_4 h hb0)⟩ (xpMV (wr := [(ms, .inl (cA 0, 20, .inl so))]) (wc := [(mo, .inr (6, [.int th, .ref mr, .ref ml, .int wr, .int gm, .int gh, .int gw, .int bm, .int bd, .int bc, .int ca, .ref ms, .ref mv]))]) hb0 hS hz (va_P.sub (hRo _ _ hS) [0] rfl) (va_P.sub hP [0] rfl) (va_D.sub (xDD (xDl hD0) hD hz hnR) [0, 1] rfl rfl) (va_recv hK hP (ci := 6) (q0 := 0) rfl rfl)) rfl rfl hl.1 rfl (lv_room (Nat.le_of_ble_eq_true rfl)) dX6_roll_2 ⟨(Nat.le_of_ble_eq_true rfl), (Nat.le_of_ble_eq_true rfl)⟩) hP hD hS hA [0] [] rfl rfl rfl (by decide) (fun r w1 H locs hΦ hP hD hS => ?_)
  obtain ⟨rfl, rfl⟩ := hΦ
  have hP : va_P (dC, dI) vwCl [(mo, .inr (6, [.int 1, .ref mr, .ref ml, .int wr, .int gm, .int gh, .int gw, .int bm, .int bd, .int bc, .int ca, .ref ms, .ref mv]))] H := hP
  have hD : va_D A [(mo, .inr (6, [.int 1, .ref mr, .ref ml, .int wr, .int gm, .int gh, .int gw, .int bm, .int bd, .int bc, .int ca, .ref ms, .ref mv]))] := hD
  refine lv_if_ne (tgt := 10) hx hb dX6_roll_5 (by decide) (fun c_1 => ?_) (fun c_1 => ?_)
  · exact absurd rfl c_1
  · refine lv_iconst (v := 0) hx hb dX6_roll_8 (by decide) ?_
    exact W.iret hx hb hr (fun t ht _ => ⟨(some (.int 0)), _, rfl, ⟨rfl, rfl⟩, by rw [ht]; exact hP, hD, hS.F ht⟩) (fun q z => hS.2.2 q z) dX6_roll_9
set_option maxHeartbeats 4000000 in
set_option maxRecDepth 100000 in
theorem m_roll_A {l : Launch} {s0 : State} {a0 : Array Value} {dC : Nat → ClassId} {dI : Nat → Nat → Nat} {cA : Nat → ClassId} (h : xC l s0 a0 dC dI cA) (mo mr ml ms mv : Nat) (th wr gm gh gw bm bd bc ca : Int32) (so : Nat → Int32) (p1 p2 : Int32) (sz : Nat) (ht : ¬ bm = 0) (hc : p1 < 0 ∨ ¬ p1 < bc) : Met l yX6_roll [Cond.code yX6_roll cX6_roll 3 (some .int)] ({ frames := 2, cells := 0, slots := 0, locals := 80 } : Room) (xPM s0 (dC, dI) [.ref mo, .int p1, .int p2] [(ms, .inl (cA 0, 20, .inl so))] [(mo, .inr (6, [.int th, .ref mr, .ref ml, .int wr, .int gm, .int gh, .int gw, .int bm, .int bd, .int bc, .int ca, .ref ms, .ref mv]))] sz) (xQM (dC, dI) (va_A [(mo, .inr (6, [.int th, .ref mr, .ref ml, .int wr, .int gm, .int gh, .int gw, .int bm, .int bd, .int bc, .int ca, .ref ms, .ref mv]))] sz) (fun r w1 => r = some (.int (0)) ∧ w1 = [(mo, .inr (6, [.int 2, .ref mr, .ref ml, .int wr, .int gm, .int gh, .int gw, .int bm, .int bd, .int bc, .int ca, .ref ms, .ref mv]))])) 0 0 (va_A [(mo, .inr (6, [.int th, .ref mr, .ref ml, .int wr, .int gm, .int gh, .int gw, .int bm, .int bd, .int bc, .int ca, .ref ms, .ref mv]))] sz) := by
  refine Met.ofW (cc := cX6_roll) (maxL := 3) (ret := (some .int)) (by decide) rfl ?_
  intro p e s m args below meth c s₁ B hml hv
  obtain ⟨rfl, rfl, hb0, hPr, hP, hD0⟩ := hv
  have hx := B.exec
  have hb := B.bytes
  have hr := B.returns
  have hown : s.vm.findClass RX6 = some m.cls := findClass_of_methodNamed B.named
  have hlocks := B.notSynchronized
  have hK := h.K hb0
  have hS : va_S (va_A [(mo, .inr (6, [.int th, .ref mr, .ref ml, .int wr, .int gm, .int gh, .int gw, .int bm, .int bd, .int bc, .int ca, .ref ms, .ref mv]))] s.heap.size) s.heap s.heap [] := va_S.rf
  obtain ⟨A, hAe, hD, hA, hz, hRo, hwk, hnR⟩ := xM_start hb0 hPr hP hD0
  rw [hAe] at hS ⊢
  have hl := lv_entry ([.ref mo, .int p1, .int p2]) (n := 3) (Nat.le_of_ble_eq_true rfl)
  rw [lg_entry_eq]
  generalize (lg_sl ([.ref mo, .int p1, .int p2]) ++ List.replicate (3 - (lg_sl ([.ref mo, .int p1, .int p2])).length) Slot.unset).toArray = ls at hl ⊢
  have hl : lv_has ls 3 [(0, .ref mo), (1, .int p1), (2, .int p2)] := hl
  refine lv_aload_n hx hb dX6_roll_0 rfl (lv_at hl 0 rfl) ?_
  refine lv_iload_n hx hb dX6_roll_1 rfl (lv_at hl 1 rfl) ?_
  refine xm_of (wc := [(mo, .inr (6, [.int th, .ref mr, .ref ml, .int wr, .int gm, .int gh, .int gw, .int bm, .int bd, .int bc, .int ca, .ref ms, .ref mv]))]) (wo := []) (va_runV (As := [.int p1]) (rest := []) ⟨hx, hb, hml, hown, xTs⟩ (c_isThere_A h mo mr ml ms mv th wr gm gh gw bm bd bc ca so p1 _ ht hc) ⟨xB (n := 1) (k_628 h hb0) (k_5 h hb0) (k_625 h hb0) (by decide) rfl rfl rfl (by decide) (by decide), (k_627 h hb0), (ks_4 h hb0)⟩ (xpMV (wr := [(ms, .inl (cA 0, 20, .inl so))]) (wc := [(mo, .inr (6, [.int th, .ref mr, .ref ml, .int wr, .int gm, .int gh, .int gw, .int bm, .int bd, .int bc, .int ca, .ref ms, .ref mv]))]) hb0 hS hz (va_P.sub (hRo _ _ hS) [0] rfl) (va_P.sub hP [0] rfl) (va_D.sub (xDD (xDl hD0) hD hz hnR) [0, 1] rfl rfl) (va_recv hK hP (ci := 6) (q0 := 0) rfl rfl)) rfl rfl hl.1 rfl (lv_room (Nat.le_of_ble_eq_true rfl)) dX6_roll_2 ⟨(Nat.le_of_ble_eq_true rfl), (Nat.le_of_ble_eq_true rfl)⟩) hP hD hS hA [0] [] rfl rfl rfl (by decide) (fun r w1 H locs hΦ hP hD hS => ?_)
  obtain ⟨rfl, rfl⟩ := hΦ
  have hP : va_P (dC, dI) vwCl [(mo, .inr (6, [.int 2, .ref mr, .ref ml, .int wr, .int gm, .int gh, .int gw, .int bm, .int bd, .int bc, .int ca, .ref ms, .ref mv]))] H := hP
  have hD : va_D A [(mo, .inr (6, [.int 2, .ref mr, .ref ml, .int wr, .int gm, .int gh, .int gw, .int bm, .int bd, .int bc, .int ca, .ref ms, .ref mv]))] := hD
  refine lv_if_ne (tgt := 10) hx hb dX6_roll_5 (by decide) (fun c_1 => ?_) (fun c_1 => ?_)
  · exact absurd rfl c_1
  · refine lv_iconst (v := 0) hx hb dX6_roll_8 (by decide) ?_
    exact W.iret hx hb hr (fun t ht _ => ⟨(some (.int 0)), _, rfl, ⟨rfl, rfl⟩, by rw [ht]; exact hP, hD, hS.F ht⟩) (fun q z => hS.2.2 q z) dX6_roll_9
set_option maxHeartbeats 4000000 in
set_option maxRecDepth 100000 in
theorem m_roll_2 {l : Launch} {s0 : State} {a0 : Array Value} {dC : Nat → ClassId} {dI : Nat → Nat → Nat} {cA : Nat → ClassId} (h : xC l s0 a0 dC dI cA) (mo mr ml ms mv : Nat) (th wr gm gh gw bm bd bc ca : Int32) (so : Nat → Int32) (p1 p2 : Int32) (sz : Nat) (ht : ¬ bm = 0) (h0 : ¬ p1 < 0) (h1 : p1 < bc) (hi : vp_in p1 20) (hs : so p1.toNatClampNeg = 0) : Met l yX6_roll [Cond.code yX6_roll cX6_roll 3 (some .int)] ({ frames := 2, cells := 0, slots := 0, locals := 80 } : Room) (xPM s0 (dC, dI) [.ref mo, .int p1, .int p2] [(ms, .inl (cA 0, 20, .inl so))] [(mo, .inr (6, [.int th, .ref mr, .ref ml, .int wr, .int gm, .int gh, .int gw, .int bm, .int bd, .int bc, .int ca, .ref ms, .ref mv]))] sz) (xQM (dC, dI) (va_A [(mo, .inr (6, [.int th, .ref mr, .ref ml, .int wr, .int gm, .int gh, .int gw, .int bm, .int bd, .int bc, .int ca, .ref ms, .ref mv]))] sz) (fun r w1 => r = some (.int (0)) ∧ w1 = [(mo, .inr (6, [.int 1, .ref mr, .ref ml, .int wr, .int gm, .int gh, .int gw, .int bm, .int bd, .int bc, .int ca, .ref ms, .ref mv]))])) 0 0 (va_A [(mo, .inr (6, [.int th, .ref mr, .ref ml, .int wr, .int gm, .int gh, .int gw, .int bm, .int bd, .int bc, .int ca, .ref ms, .ref mv]))] sz) := by
  refine Met.ofW (cc := cX6_roll) (maxL := 3) (ret := (some .int)) (by decide) rfl ?_
  intro p e s m args below meth c s₁ B hml hv
  obtain ⟨rfl, rfl, hb0, hPr, hP, hD0⟩ := hv
  have hx := B.exec
  have hb := B.bytes
  have hr := B.returns
  have hown : s.vm.findClass RX6 = some m.cls := findClass_of_methodNamed B.named
  have hlocks := B.notSynchronized
  have hK := h.K hb0
  have hS : va_S (va_A [(mo, .inr (6, [.int th, .ref mr, .ref ml, .int wr, .int gm, .int gh, .int gw, .int bm, .int bd, .int bc, .int ca, .ref ms, .ref mv]))] s.heap.size) s.heap s.heap [] := va_S.rf
  obtain ⟨A, hAe, hD, hA, hz, hRo, hwk, hnR⟩ := xM_start hb0 hPr hP hD0
  rw [hAe] at hS ⊢
  have hl := lv_entry ([.ref mo, .int p1, .int p2]) (n := 3) (Nat.le_of_ble_eq_true rfl)
  rw [lg_entry_eq]
  generalize (lg_sl ([.ref mo, .int p1, .int p2]) ++ List.replicate (3 - (lg_sl ([.ref mo, .int p1, .int p2])).length) Slot.unset).toArray = ls at hl ⊢
  have hl : lv_has ls 3 [(0, .ref mo), (1, .int p1), (2, .int p2)] := hl
  refine lv_aload_n hx hb dX6_roll_0 rfl (lv_at hl 0 rfl) ?_
  refine lv_iload_n hx hb dX6_roll_1 rfl (lv_at hl 1 rfl) ?_
  refine xm_of (wc := [(mo, .inr (6, [.int th, .ref mr, .ref ml, .int wr, .int gm, .int gh, .int gw, .int bm, .int bd, .int bc, .int ca, .ref ms, .ref mv]))]) (wo := []) (va_runV (As := [.int p1]) (rest := []) ⟨hx, hb, hml, hown, xTs⟩ (c_isThere_2 h mo mr ml ms mv th wr gm gh gw bm bd bc ca so p1 _ ht h0 h1 hi hs) ⟨xB (n := 1) (k_628 h hb0) (k_5 h hb0) (k_625 h hb0) (by decide) rfl rfl rfl (by decide) (by decide), (k_627 h hb0), (ks_4 h hb0)⟩ (xpMV (wr := [(ms, .inl (cA 0, 20, .inl so))]) (wc := [(mo, .inr (6, [.int th, .ref mr, .ref ml, .int wr, .int gm, .int gh, .int gw, .int bm, .int bd, .int bc, .int ca, .ref ms, .ref mv]))]) hb0 hS hz (va_P.sub (hRo _ _ hS) [0] rfl) (va_P.sub hP [0] rfl) (va_D.sub (xDD (xDl hD0) hD hz hnR) [0, 1] rfl rfl) (va_recv hK hP (ci := 6) (q0 := 0) rfl rfl)) rfl rfl hl.1 rfl (lv_room (Nat.le_of_ble_eq_true rfl)) dX6_roll_2 ⟨(Nat.le_of_ble_eq_true rfl), (Nat.le_of_ble_eq_true rfl)⟩) hP hD hS hA [0] [] rfl rfl rfl (by decide) (fun r w1 H locs hΦ hP hD hS => ?_)
  obtain ⟨rfl, rfl⟩ := hΦ
  have hP : va_P (dC, dI) vwCl [(mo, .inr (6, [.int 1, .ref mr, .ref ml, .int wr, .int gm, .int gh, .int gw, .int bm, .int bd, .int bc, .int ca, .ref ms, .ref mv]))] H := hP
  have hD : va_D A [(mo, .inr (6, [.int 1, .ref mr, .ref ml, .int wr, .int gm, .int gh, .int gw, .int bm, .int bd, .int bc, .int ca, .ref ms, .ref mv]))] := hD
  refine lv_if_ne (tgt := 10) hx hb dX6_roll_5 (by decide) (fun c_1 => ?_) (fun c_1 => ?_)
  · exact absurd rfl c_1
  · refine lv_iconst (v := 0) hx hb dX6_roll_8 (by decide) ?_
    exact W.iret hx hb hr (fun t ht _ => ⟨(some (.int 0)), _, rfl, ⟨rfl, rfl⟩, by rw [ht]; exact hP, hD, hS.F ht⟩) (fun q z => hS.2.2 q z) dX6_roll_9
set_option maxHeartbeats 4000000 in
set_option maxRecDepth 100000 in
theorem m_roll_b {l : Launch} {s0 : State} {a0 : Array Value} {dC : Nat → ClassId} {dI : Nat → Nat → Nat} {cA : Nat → ClassId} (h : xC l s0 a0 dC dI cA) (mo mr ml ms mv : Nat) (th wr gm gh gw bm bd bc ca : Int32) (so : Nat → Int32) (va : Nat → Int32) (p1 p2 : Int32) (sz : Nat) (ht : ¬ bm = 0) (h0 : ¬ p1 < 0) (h1 : p1 < bc) (hi : vp_in p1 20) (hs : so p1.toNatClampNeg = 1) : Met l yX6_roll [Cond.code yX6_roll cX6_roll 3 (some .int)] ({ frames := 2, cells := 0, slots := 0, locals := 80 } : Room) (xPM s0 (dC, dI) [.ref mo, .int p1, .int p2] [(ms, .inl (cA 0, 20, .inl so)), (mv, .inl (cA 0, 20, .inl va))] [(mo, .inr (6, [.int th, .ref mr, .ref ml, .int wr, .int gm, .int gh, .int gw, .int bm, .int bd, .int bc, .int ca, .ref ms, .ref mv]))] sz) (xQM (dC, dI) (va_A [(mo, .inr (6, [.int th, .ref mr, .ref ml, .int wr, .int gm, .int gh, .int gw, .int bm, .int bd, .int bc, .int ca, .ref ms, .ref mv]))] sz) (fun r w1 => r = some (.int (0)) ∧ w1 = [(mo, .inr (6, [.int 3, .ref mr, .ref ml, .int wr, .int gm, .int gh, .int gw, .int bm, .int bd, .int bc, .int ca, .ref ms, .ref mv]))])) 0 0 (va_A [(mo, .inr (6, [.int th, .ref mr, .ref ml, .int wr, .int gm, .int gh, .int gw, .int bm, .int bd, .int bc, .int ca, .ref ms, .ref mv]))] sz) := by
  refine Met.ofW (cc := cX6_roll) (maxL := 3) (ret := (some .int)) (by decide) rfl ?_
  intro p e s m args below meth c s₁ B hml hv
  obtain ⟨rfl, rfl, hb0, hPr, hP, hD0⟩ := hv
  have hx := B.exec
  have hb := B.bytes
  have hr := B.returns
  have hown : s.vm.findClass RX6 = some m.cls := findClass_of_methodNamed B.named
  have hlocks := B.notSynchronized
  have hK := h.K hb0
  have hS : va_S (va_A [(mo, .inr (6, [.int th, .ref mr, .ref ml, .int wr, .int gm, .int gh, .int gw, .int bm, .int bd, .int bc, .int ca, .ref ms, .ref mv]))] s.heap.size) s.heap s.heap [] := va_S.rf
  obtain ⟨A, hAe, hD, hA, hz, hRo, hwk, hnR⟩ := xM_start hb0 hPr hP hD0
  rw [hAe] at hS ⊢
  have hl := lv_entry ([.ref mo, .int p1, .int p2]) (n := 3) (Nat.le_of_ble_eq_true rfl)
  rw [lg_entry_eq]
  generalize (lg_sl ([.ref mo, .int p1, .int p2]) ++ List.replicate (3 - (lg_sl ([.ref mo, .int p1, .int p2])).length) Slot.unset).toArray = ls at hl ⊢
  have hl : lv_has ls 3 [(0, .ref mo), (1, .int p1), (2, .int p2)] := hl
  refine lv_aload_n hx hb dX6_roll_0 rfl (lv_at hl 0 rfl) ?_
  refine lv_iload_n hx hb dX6_roll_1 rfl (lv_at hl 1 rfl) ?_
  refine xm_of (wc := [(mo, .inr (6, [.int th, .ref mr, .ref ml, .int wr, .int gm, .int gh, .int gw, .int bm, .int bd, .int bc, .int ca, .ref ms, .ref mv]))]) (wo := []) (va_runV (As := [.int p1]) (rest := []) ⟨hx, hb, hml, hown, xTs⟩ (c_isThere_c h mo mr ml ms mv th wr gm gh gw bm bd bc ca so p1 _ ht h0 h1 hi (by rw [hs]; decide)) ⟨xB (n := 1) (k_628 h hb0) (k_5 h hb0) (k_625 h hb0) (by decide) rfl rfl rfl (by decide) (by decide), (k_627 h hb0), (ks_4 h hb0)⟩ (xpMV (wr := [(ms, .inl (cA 0, 20, .inl so))]) (wc := [(mo, .inr (6, [.int th, .ref mr, .ref ml, .int wr, .int gm, .int gh, .int gw, .int bm, .int bd, .int bc, .int ca, .ref ms, .ref mv]))]) hb0 hS hz (va_P.sub (hRo _ _ hS) [0] rfl) (va_P.sub hP [0] rfl) (va_D.sub (xDD (xDl hD0) hD hz hnR) [0, 2] rfl rfl) (va_recv hK hP (ci := 6) (q0 := 0) rfl rfl)) rfl rfl hl.1 rfl (lv_room (Nat.le_of_ble_eq_true rfl)) dX6_roll_2 ⟨(Nat.le_of_ble_eq_true rfl), (Nat.le_of_ble_eq_true rfl)⟩) hP hD hS hA [0] [] rfl rfl rfl (by decide) (fun r w1 H locs hΦ hP hD hS => ?_)
  obtain ⟨rfl, rfl⟩ := hΦ
  have hP : va_P (dC, dI) vwCl [(mo, .inr (6, [.int 0, .ref mr, .ref ml, .int wr, .int gm, .int gh, .int gw, .int bm, .int bd, .int bc, .int ca, .ref ms, .ref mv]))] H := hP
  have hD : va_D A [(mo, .inr (6, [.int 0, .ref mr, .ref ml, .int wr, .int gm, .int gh, .int gw, .int bm, .int bd, .int bc, .int ca, .ref ms, .ref mv]))] := hD
  refine lv_if_ne (tgt := 10) hx hb dX6_roll_5 (by decide) (fun c_1 => ?_) (fun c_1 => ?_)
  · refine lv_aload_n hx hb dX6_roll_10 rfl (lv_at hl 0 rfl) ?_
    refine va_get (D := (dC, dI)) (ci := 6) (v := .ref ms) (C := RX6) (T := TX6) (N := 13) hx hb (ly_6 h hb0) (fun _ z => z) hown hK hP 0 rfl rfl 11 (by decide) (k_542 h hb0) (fun _ z => z) rfl dX6_roll_11 ?_
    refine lv_iload_n hx hb dX6_roll_14 rfl (lv_at hl 1 rfl) ?_
    refine va_iald hx hb hK (hRo _ _ hS) 0 0 rfl rfl hi dX6_roll_15 ?_
    refine lv_iconst (v := 1) hx hb dX6_roll_16 (by decide) ?_
    refine lv_icmp_ne (tgt := 28) hx hb dX6_roll_17 (by decide) (fun c_2 => ?_) (fun c_2 => ?_)
    · exact absurd hs c_2
    · refine lv_aload_n hx hb dX6_roll_20 rfl (lv_at hl 0 rfl) ?_
      refine lv_iconst (v := 3) hx hb dX6_roll_21 (by decide) ?_
      refine xm_of (wc := [(mo, .inr (6, [.int 0, .ref mr, .ref ml, .int wr, .int gm, .int gh, .int gw, .int bm, .int bd, .int bc, .int ca, .ref ms, .ref mv]))]) (wo := []) (va_runV (As := [.int 3]) (rest := []) ⟨hx, hb, hml, hown, xTs⟩ (c_fails h mo mr ml ms mv 0 wr gm gh gw bm bd bc ca 3 _) ⟨xB (n := 1) (k_582 h hb0) (k_5 h hb0) (k_579 h hb0) (by decide) rfl rfl rfl (by decide) (by decide), (k_581 h hb0), (ks_3 h hb0)⟩ (xpMV (wr := []) (wc := [(mo, .inr (6, [.int 0, .ref mr, .ref ml, .int wr, .int gm, .int gh, .int gw, .int bm, .int bd, .int bc, .int ca, .ref ms, .ref mv]))]) hb0 hS hz (va_P.sub hP [] rfl) (va_P.sub hP [0] rfl) (va_D.sub (xDD (xDl hD0) hD hz hnR) [2] rfl rfl) (va_recv hK hP (ci := 6) (q0 := 0) rfl rfl)) rfl rfl hl.1 rfl (lv_room (Nat.le_of_ble_eq_true rfl)) dX6_roll_22 ⟨(Nat.le_of_ble_eq_true rfl), (Nat.le_of_ble_eq_true rfl)⟩) hP hD hS hA [0] [] rfl rfl rfl (by decide) (fun r w1 H locs hΦ hP hD hS => ?_)
      obtain ⟨rfl, rfl⟩ := hΦ
      have hP : va_P (dC, dI) vwCl [(mo, .inr (6, [.int 3, .ref mr, .ref ml, .int wr, .int gm, .int gh, .int gw, .int bm, .int bd, .int bc, .int ca, .ref ms, .ref mv]))] H := hP
      have hD : va_D A [(mo, .inr (6, [.int 3, .ref mr, .ref ml, .int wr, .int gm, .int gh, .int gw, .int bm, .int bd, .int bc, .int ca, .ref ms, .ref mv]))] := hD
      refine lv_goto (tgt := 36) hx hb dX6_roll_25 (by decide) ?_
      exact W.iret hx hb hr (fun t ht _ => ⟨(some (.int 0)), _, rfl, ⟨rfl, rfl⟩, by rw [ht]; exact hP, hD, hS.F ht⟩) (fun q z => hS.2.2 q z) dX6_roll_36
  · exact absurd c_1 (by decide)
set_option maxHeartbeats 4000000 in
set_option maxRecDepth 100000 in
theorem m_roll_d {l : Launch} {s0 : State} {a0 : Array Value} {dC : Nat → ClassId} {dI : Nat → Nat → Nat} {cA : Nat → ClassId} (h : xC l s0 a0 dC dI cA) (mo mr ml ms mv : Nat) (th wr gm gh gw bm bd bc ca : Int32) (so : Nat → Int32) (va : Nat → Int32) (p1 p2 : Int32) (sz : Nat) (ht : ¬ bm = 0) (h0 : ¬ p1 < 0) (h1 : p1 < bc) (hi : vp_in p1 20) (hs : so p1.toNatClampNeg = 2) : Met l yX6_roll [Cond.code yX6_roll cX6_roll 3 (some .int)] ({ frames := 2, cells := 0, slots := 0, locals := 80 } : Room) (xPM s0 (dC, dI) [.ref mo, .int p1, .int p2] [(ms, .inl (cA 0, 20, .inl so)), (mv, .inl (cA 0, 20, .inl va))] [(mo, .inr (6, [.int th, .ref mr, .ref ml, .int wr, .int gm, .int gh, .int gw, .int bm, .int bd, .int bc, .int ca, .ref ms, .ref mv]))] sz) (xQM (dC, dI) (va_A [(mo, .inr (6, [.int th, .ref mr, .ref ml, .int wr, .int gm, .int gh, .int gw, .int bm, .int bd, .int bc, .int ca, .ref ms, .ref mv]))] sz) (fun r w1 => r = some (.int (va p1.toNatClampNeg ^^^ p2)) ∧ w1 = [(mo, .inr (6, [.int 0, .ref mr, .ref ml, .int wr, .int gm, .int gh, .int gw, .int bm, .int bd, .int bc, .int ca, .ref ms, .ref mv]))])) 0 0 (va_A [(mo, .inr (6, [.int th, .ref mr, .ref ml, .int wr, .int gm, .int gh, .int gw, .int bm, .int bd, .int bc, .int ca, .ref ms, .ref mv]))] sz) := by
  refine Met.ofW (cc := cX6_roll) (maxL := 3) (ret := (some .int)) (by decide) rfl ?_
  intro p e s m args below meth c s₁ B hml hv
  obtain ⟨rfl, rfl, hb0, hPr, hP, hD0⟩ := hv
  have hx := B.exec
  have hb := B.bytes
  have hr := B.returns
  have hown : s.vm.findClass RX6 = some m.cls := findClass_of_methodNamed B.named
  have hlocks := B.notSynchronized
  have hK := h.K hb0
  have hS : va_S (va_A [(mo, .inr (6, [.int th, .ref mr, .ref ml, .int wr, .int gm, .int gh, .int gw, .int bm, .int bd, .int bc, .int ca, .ref ms, .ref mv]))] s.heap.size) s.heap s.heap [] := va_S.rf
  obtain ⟨A, hAe, hD, hA, hz, hRo, hwk, hnR⟩ := xM_start hb0 hPr hP hD0
  rw [hAe] at hS ⊢
  have hl := lv_entry ([.ref mo, .int p1, .int p2]) (n := 3) (Nat.le_of_ble_eq_true rfl)
  rw [lg_entry_eq]
  generalize (lg_sl ([.ref mo, .int p1, .int p2]) ++ List.replicate (3 - (lg_sl ([.ref mo, .int p1, .int p2])).length) Slot.unset).toArray = ls at hl ⊢
  have hl : lv_has ls 3 [(0, .ref mo), (1, .int p1), (2, .int p2)] := hl
  refine lv_aload_n hx hb dX6_roll_0 rfl (lv_at hl 0 rfl) ?_
  refine lv_iload_n hx hb dX6_roll_1 rfl (lv_at hl 1 rfl) ?_
  refine xm_of (wc := [(mo, .inr (6, [.int th, .ref mr, .ref ml, .int wr, .int gm, .int gh, .int gw, .int bm, .int bd, .int bc, .int ca, .ref ms, .ref mv]))]) (wo := []) (va_runV (As := [.int p1]) (rest := []) ⟨hx, hb, hml, hown, xTs⟩ (c_isThere_c h mo mr ml ms mv th wr gm gh gw bm bd bc ca so p1 _ ht h0 h1 hi (by rw [hs]; decide)) ⟨xB (n := 1) (k_628 h hb0) (k_5 h hb0) (k_625 h hb0) (by decide) rfl rfl rfl (by decide) (by decide), (k_627 h hb0), (ks_4 h hb0)⟩ (xpMV (wr := [(ms, .inl (cA 0, 20, .inl so))]) (wc := [(mo, .inr (6, [.int th, .ref mr, .ref ml, .int wr, .int gm, .int gh, .int gw, .int bm, .int bd, .int bc, .int ca, .ref ms, .ref mv]))]) hb0 hS hz (va_P.sub (hRo _ _ hS) [0] rfl) (va_P.sub hP [0] rfl) (va_D.sub (xDD (xDl hD0) hD hz hnR) [0, 2] rfl rfl) (va_recv hK hP (ci := 6) (q0 := 0) rfl rfl)) rfl rfl hl.1 rfl (lv_room (Nat.le_of_ble_eq_true rfl)) dX6_roll_2 ⟨(Nat.le_of_ble_eq_true rfl), (Nat.le_of_ble_eq_true rfl)⟩) hP hD hS hA [0] [] rfl rfl rfl (by decide) (fun r w1 H locs hΦ hP hD hS => ?_)
  obtain ⟨rfl, rfl⟩ := hΦ
  have hP : va_P (dC, dI) vwCl [(mo, .inr (6, [.int 0, .ref mr, .ref ml, .int wr, .int gm, .int gh, .int gw, .int bm, .int bd, .int bc, .int ca, .ref ms, .ref mv]))] H := hP
  have hD : va_D A [(mo, .inr (6, [.int 0, .ref mr, .ref ml, .int wr, .int gm, .int gh, .int gw, .int bm, .int bd, .int bc, .int ca, .ref ms, .ref mv]))] := hD
  refine lv_if_ne (tgt := 10) hx hb dX6_roll_5 (by decide) (fun c_1 => ?_) (fun c_1 => ?_)
  · refine lv_aload_n hx hb dX6_roll_10 rfl (lv_at hl 0 rfl) ?_
    refine va_get (D := (dC, dI)) (ci := 6) (v := .ref ms) (C := RX6) (T := TX6) (N := 13) hx hb (ly_6 h hb0) (fun _ z => z) hown hK hP 0 rfl rfl 11 (by decide) (k_542 h hb0) (fun _ z => z) rfl dX6_roll_11 ?_
    refine lv_iload_n hx hb dX6_roll_14 rfl (lv_at hl 1 rfl) ?_
    refine va_iald hx hb hK (hRo _ _ hS) 0 0 rfl rfl hi dX6_roll_15 ?_
    refine lv_iconst (v := 1) hx hb dX6_roll_16 (by decide) ?_
    refine lv_icmp_ne (tgt := 28) hx hb dX6_roll_17 (by decide) (fun c_2 => ?_) (fun c_2 => ?_)
    · refine lv_aload_n hx hb dX6_roll_28 rfl (lv_at hl 0 rfl) ?_
      refine va_get (D := (dC, dI)) (ci := 6) (v := .ref mv) (C := RX6) (T := TX6) (N := 13) hx hb (ly_6 h hb0) (fun _ z => z) hown hK hP 0 rfl rfl 12 (by decide) (k_543 h hb0) (fun _ z => z) rfl dX6_roll_29 ?_
      refine lv_iload_n hx hb dX6_roll_32 rfl (lv_at hl 1 rfl) ?_
      refine va_iald hx hb hK (hRo _ _ hS) 1 0 rfl rfl hi dX6_roll_33 ?_
      refine lv_iload_n hx hb dX6_roll_34 rfl (lv_at hl 2 rfl) ?_
      refine lv_ixor hx hb dX6_roll_35 ?_
      exact W.iret hx hb hr (fun t ht _ => ⟨(some (.int ((va p1.toNatClampNeg) ^^^ p2))), _, rfl, ⟨rfl, rfl⟩, by rw [ht]; exact hP, hD, hS.F ht⟩) (fun q z => hS.2.2 q z) dX6_roll_36
    · exact absurd (hs.symm.trans c_2) (by decide)
  · exact absurd c_1 (by decide)
set_option maxHeartbeats 4000000 in
set_option maxRecDepth 100000 in
theorem m_divide_c {l : Launch} {s0 : State} {a0 : Array Value} {dC : Nat → ClassId} {dI : Nat → Nat → Nat} {cA : Nat → ClassId} (h : xC l s0 a0 dC dI cA) (mo mr ml ms mv : Nat) (th wr gm gh gw bm bd bc ca : Int32) (p1 p2 : Int32) (p3 : Int32) (sz : Nat) (hc : ¬ p2 = 0) : Met l yX6_divide [Cond.code yX6_divide cX6_divide 4 (some .int)] ({ frames := 1, cells := 0, slots := 0, locals := 40 } : Room) (xPM s0 (dC, dI) [.ref mo, .int p1, .int p2, .int p3] [] [(mo, .inr (6, [.int th, .ref mr, .ref ml, .int wr, .int gm, .int gh, .int gw, .int bm, .int bd, .int bc, .int ca, .ref ms, .ref mv]))] sz) (xQM (dC, dI) (va_A [(mo, .inr (6, [.int th, .ref mr, .ref ml, .int wr, .int gm, .int gh, .int gw, .int bm, .int bd, .int bc, .int ca, .ref ms, .ref mv]))] sz) (fun r w1 => r = some (.int (if p3 = 0 then p1 / p2 else p1 - p1 / p2 * p2)) ∧ w1 = [(mo, .inr (6, [.int 0, .ref mr, .ref ml, .int wr, .int gm, .int gh, .int gw, .int bm, .int bd, .int bc, .int ca, .ref ms, .ref mv]))])) 0 0 (va_A [(mo, .inr (6, [.int th, .ref mr, .ref ml, .int wr, .int gm, .int gh, .int gw, .int bm, .int bd, .int bc, .int ca, .ref ms, .ref mv]))] sz) := by
  refine Met.ofW (cc := cX6_divide) (maxL := 4) (ret := (some .int)) (by decide) rfl ?_
  intro p e s m args below meth c s₁ B hml hv
  obtain ⟨rfl, rfl, hb0, hPr, hP, hD0⟩ := hv
  have hx := B.exec
  have hb := B.bytes
  have hr := B.returns
  have hown : s.vm.findClass RX6 = some m.cls := findClass_of_methodNamed B.named
  have hlocks := B.notSynchronized
  have hK := h.K hb0
  have hS : va_S (va_A [(mo, .inr (6, [.int th, .ref mr, .ref ml, .int wr, .int gm, .int gh, .int gw, .int bm, .int bd, .int bc, .int ca, .ref ms, .ref mv]))] s.heap.size) s.heap s.heap [] := va_S.rf
  obtain ⟨A, hAe, hD, hA, hz, hRo, hwk, hnR⟩ := xM_start hb0 hPr hP hD0
  rw [hAe] at hS ⊢
  have hl := lv_entry ([.ref mo, .int p1, .int p2, .int p3]) (n := 4) (Nat.le_of_ble_eq_true rfl)
  rw [lg_entry_eq]
  generalize (lg_sl ([.ref mo, .int p1, .int p2, .int p3]) ++ List.replicate (4 - (lg_sl ([.ref mo, .int p1, .int p2, .int p3])).length) Slot.unset).toArray = ls at hl ⊢
  have hl : lv_has ls 4 [(0, .ref mo), (1, .int p1), (2, .int p2), (3, .int p3)] := hl
  refine lv_aload_n hx hb dX6_divide_0 rfl (lv_at hl 0 rfl) ?_
  refine lv_iconst (v := 0) hx hb dX6_divide_1 (by decide) ?_
  refine va_put (D := (dC, dI)) (ci := 6) (v := .int 0) (ty := .int) (C := RX6) (T := TX6) (N := 13) hx hb (ly_6 h hb0) (fun _ z => z) tyX6 tyX6_ok nmX6 hown hK hP hD hS 0 rfl rfl 0 (by decide) (k_531 h hb0) (fun _ z => z) rfl (by decide +kernel) rfl rfl (Nat.le_of_ble_eq_true rfl) dX6_divide_2 (fun H locs hP hD hS => ?_)
  have hP : va_P (dC, dI) vwCl [(mo, .inr (6, [.int 0, .ref mr, .ref ml, .int wr, .int gm, .int gh, .int gw, .int bm, .int bd, .int bc, .int ca, .ref ms, .ref mv]))] H := hP
  have hD : va_D A [(mo, .inr (6, [.int 0, .ref mr, .ref ml, .int wr, .int gm, .int gh, .int gw, .int bm, .int bd, .int bc, .int ca, .ref ms, .ref mv]))] := hD
  refine lv_iload_n hx hb dX6_divide_5 rfl (lv_at hl 2 rfl) ?_
  refine lv_if_ne (tgt := 15) hx hb dX6_divide_6 (by decide) (fun c_1 => ?_) (fun c_1 => ?_)
  · refine lv_iload_n hx hb dX6_divide_15 rfl (lv_at hl 3 rfl) ?_
    refine lv_if_eq (tgt := 25) hx hb dX6_divide_16 (by decide) (fun c_2 => ?_) (fun c_2 => ?_)
    · refine lv_iload_n hx hb dX6_divide_25 rfl (lv_at hl 1 rfl) ?_
      refine lv_iload_n hx hb dX6_divide_26 rfl (lv_at hl 2 rfl) ?_
      refine lv_idiv hx hb dX6_divide_27 hc ?_
      exact W.iret hx hb hr (fun t ht _ => ⟨(some (.int (p1 / p2))), _, rfl, ⟨by rw [if_pos c_2], rfl⟩, by rw [ht]; exact hP, hD, hS.F ht⟩) (fun q z => hS.2.2 q z) dX6_divide_28
    · refine lv_iload_n hx hb dX6_divide_19 rfl (lv_at hl 1 rfl) ?_
      refine lv_iload_n hx hb dX6_divide_20 rfl (lv_at hl 2 rfl) ?_
      refine lv_irem hx hb dX6_divide_21 hc ?_
      refine lv_goto (tgt := 28) hx hb dX6_divide_22 (by decide) ?_
      exact W.iret hx hb hr (fun t ht _ => ⟨(some (.int (p1 - p1 / p2 * p2))), _, rfl, ⟨by rw [if_neg c_2], rfl⟩, by rw [ht]; exact hP, hD, hS.F ht⟩) (fun q z => hS.2.2 q z) dX6_divide_28
  · exact absurd c_1 hc
set_option maxHeartbeats 4000000 in
set_option maxRecDepth 100000 in
theorem m_divide_Z {l : Launch} {s0 : State} {a0 : Array Value} {dC : Nat → ClassId} {dI : Nat → Nat → Nat} {cA : Nat → ClassId} (h : xC l s0 a0 dC dI cA) (mo mr ml ms mv : Nat) (th wr gm gh gw bm bd bc ca : Int32) (p1 p2 : Int32) (p3 : Int32) (sz : Nat) (hc : p2 = 0) : Met l yX6_divide [Cond.code yX6_divide cX6_divide 4 (some .int)] ({ frames := 1, cells := 0, slots := 0, locals := 40 } : Room) (xPM s0 (dC, dI) [.ref mo, .int p1, .int p2, .int p3] [] [(mo, .inr (6, [.int th, .ref mr, .ref ml, .int wr, .int gm, .int gh, .int gw, .int bm, .int bd, .int bc, .int ca, .ref ms, .ref mv]))] sz) (xQM (dC, dI) (va_A [(mo, .inr (6, [.int th, .ref mr, .ref ml, .int wr, .int gm, .int gh, .int gw, .int bm, .int bd, .int bc, .int ca, .ref ms, .ref mv]))] sz) (fun r w1 => r = some (.int 0) ∧ w1 = [(mo, .inr (6, [.int 1, .ref mr, .ref ml, .int wr, .int gm, .int gh, .int gw, .int bm, .int bd, .int bc, .int ca, .ref ms, .ref mv]))])) 0 0 (va_A [(mo, .inr (6, [.int th, .ref mr, .ref ml, .int wr, .int gm, .int gh, .int gw, .int bm, .int bd, .int bc, .int ca, .ref ms, .ref mv]))] sz) := by
  refine Met.ofW (cc := cX6_divide) (maxL := 4) (ret := (some .int)) (by decide) rfl ?_
  intro p e s m args below meth c s₁ B hml hv
  obtain ⟨rfl, rfl, hb0, hPr, hP, hD0⟩ := hv
  have hx := B.exec
  have hb := B.bytes
  have hr := B.returns
  have hown : s.vm.findClass RX6 = some m.cls := findClass_of_methodNamed B.named
  have hlocks := B.notSynchronized
  have hK := h.K hb0
  have hS : va_S (va_A [(mo, .inr (6, [.int th, .ref mr, .ref ml, .int wr, .int gm, .int gh, .int gw, .int bm, .int bd, .int bc, .int ca, .ref ms, .ref mv]))] s.heap.size) s.heap s.heap [] := va_S.rf
  obtain ⟨A, hAe, hD, hA, hz, hRo, hwk, hnR⟩ := xM_start hb0 hPr hP hD0
  rw [hAe] at hS ⊢
  have hl := lv_entry ([.ref mo, .int p1, .int p2, .int p3]) (n := 4) (Nat.le_of_ble_eq_true rfl)
  rw [lg_entry_eq]
  generalize (lg_sl ([.ref mo, .int p1, .int p2, .int p3]) ++ List.replicate (4 - (lg_sl ([.ref mo, .int p1, .int p2, .int p3])).length) Slot.unset).toArray = ls at hl ⊢
  have hl : lv_has ls 4 [(0, .ref mo), (1, .int p1), (2, .int p2), (3, .int p3)] := hl
  refine lv_aload_n hx hb dX6_divide_0 rfl (lv_at hl 0 rfl) ?_
  refine lv_iconst (v := 0) hx hb dX6_divide_1 (by decide) ?_
  refine va_put (D := (dC, dI)) (ci := 6) (v := .int 0) (ty := .int) (C := RX6) (T := TX6) (N := 13) hx hb (ly_6 h hb0) (fun _ z => z) tyX6 tyX6_ok nmX6 hown hK hP hD hS 0 rfl rfl 0 (by decide) (k_531 h hb0) (fun _ z => z) rfl (by decide +kernel) rfl rfl (Nat.le_of_ble_eq_true rfl) dX6_divide_2 (fun H locs hP hD hS => ?_)
  have hP : va_P (dC, dI) vwCl [(mo, .inr (6, [.int 0, .ref mr, .ref ml, .int wr, .int gm, .int gh, .int gw, .int bm, .int bd, .int bc, .int ca, .ref ms, .ref mv]))] H := hP
  have hD : va_D A [(mo, .inr (6, [.int 0, .ref mr, .ref ml, .int wr, .int gm, .int gh, .int gw, .int bm, .int bd, .int bc, .int ca, .ref ms, .ref mv]))] := hD
  refine lv_iload_n hx hb dX6_divide_5 rfl (lv_at hl 2 rfl) ?_
  refine lv_if_ne (tgt := 15) hx hb dX6_divide_6 (by decide) (fun c_1 => ?_) (fun c_1 => ?_)
  · exact absurd hc c_1
  · refine lv_aload_n hx hb dX6_divide_9 rfl (lv_at hl 0 rfl) ?_
    refine lv_iconst (v := 1) hx hb dX6_divide_10 (by decide) ?_
    refine xm_of (wc := [(mo, .inr (6, [.int 0, .ref mr, .ref ml, .int wr, .int gm, .int gh, .int gw, .int bm, .int bd, .int bc, .int ca, .ref ms, .ref mv]))]) (wo := []) (va_runV (As := [.int 1]) (rest := []) ⟨hx, hb, hml, hown, xTs⟩ (c_fails h mo mr ml ms mv 0 wr gm gh gw bm bd bc ca 1 _) ⟨xB (n := 1) (k_582 h hb0) (k_5 h hb0) (k_579 h hb0) (by decide) rfl rfl rfl (by decide) (by decide), (k_581 h hb0), (ks_3 h hb0)⟩ (xpMV (wr := []) (wc := [(mo, .inr (6, [.int 0, .ref mr, .ref ml, .int wr, .int gm, .int gh, .int gw, .int bm, .int bd, .int bc, .int ca, .ref ms, .ref mv]))]) hb0 hS hz (va_P.sub hP [] rfl) (va_P.sub hP [0] rfl) (va_D.sub (hwk _ hD) [0] rfl rfl) (va_recv hK hP (ci := 6) (q0 := 0) rfl rfl)) rfl rfl hl.1 rfl (lv_room (Nat.le_of_ble_eq_true rfl)) dX6_divide_11 ⟨(Nat.le_of_ble_eq_true rfl), (Nat.le_of_ble_eq_true rfl)⟩) hP hD hS hA [0] [] rfl rfl rfl (by decide) (fun r w1 H locs hΦ hP hD hS => ?_)
    obtain ⟨rfl, rfl⟩ := hΦ
    have hP : va_P (dC, dI) vwCl [(mo, .inr (6, [.int 1, .ref mr, .ref ml, .int wr, .int gm, .int gh, .int gw, .int bm, .int bd, .int bc, .int ca, .ref ms, .ref mv]))] H := hP
    have hD : va_D A [(mo, .inr (6, [.int 1, .ref mr, .ref ml, .int wr, .int gm, .int gh, .int gw, .int bm, .int bd, .int bc, .int ca, .ref ms, .ref mv]))] := hD
    exact W.iret hx hb hr (fun t ht _ => ⟨(some (.int 0)), _, rfl, ⟨rfl, rfl⟩, by rw [ht]; exact hP, hD, hS.F ht⟩) (fun q z => hS.2.2 q z) dX6_divide_14
set_option maxHeartbeats 4000000 in
set_option maxRecDepth 100000 in
theorem m_divideLong_c {l : Launch} {s0 : State} {a0 : Array Value} {dC : Nat → ClassId} {dI : Nat → Nat → Nat} {cA : Nat → ClassId} (h : xC l s0 a0 dC dI cA) (mo mr ml ms mv : Nat) (th wr gm gh gw bm bd bc ca : Int32) (p1 p2 : Int64) (p3 : Int32) (sz : Nat) (hc : ¬ p2 = 0) : Met l yX6_divideLong [Cond.code yX6_divideLong cX6_divideLong 6 (some .long)] ({ frames := 1, cells := 0, slots := 0, locals := 40 } : Room) (xPM s0 (dC, dI) [.ref mo, .long p1, .long p2, .int p3] [] [(mo, .inr (6, [.int th, .ref mr, .ref ml, .int wr, .int gm, .int gh, .int gw, .int bm, .int bd, .int bc, .int ca, .ref ms, .ref mv]))] sz) (xQM (dC, dI) (va_A [(mo, .inr (6, [.int th, .ref mr, .ref ml, .int wr, .int gm, .int gh, .int gw, .int bm, .int bd, .int bc, .int ca, .ref ms, .ref mv]))] sz) (fun r w1 => r = some (.long (if p3 = 0 then p1 / p2 else p1 - p1 / p2 * p2)) ∧ w1 = [(mo, .inr (6, [.int 0, .ref mr, .ref ml, .int wr, .int gm, .int gh, .int gw, .int bm, .int bd, .int bc, .int ca, .ref ms, .ref mv]))])) 0 0 (va_A [(mo, .inr (6, [.int th, .ref mr, .ref ml, .int wr, .int gm, .int gh, .int gw, .int bm, .int bd, .int bc, .int ca, .ref ms, .ref mv]))] sz) := by
  refine Met.ofW (cc := cX6_divideLong) (maxL := 6) (ret := (some .long)) (by decide) rfl ?_
  intro p e s m args below meth c s₁ B hml hv
  obtain ⟨rfl, rfl, hb0, hPr, hP, hD0⟩ := hv
  have hx := B.exec
  have hb := B.bytes
  have hr := B.returns
  have hown : s.vm.findClass RX6 = some m.cls := findClass_of_methodNamed B.named
  have hlocks := B.notSynchronized
  have hK := h.K hb0
  have hS : va_S (va_A [(mo, .inr (6, [.int th, .ref mr, .ref ml, .int wr, .int gm, .int gh, .int gw, .int bm, .int bd, .int bc, .int ca, .ref ms, .ref mv]))] s.heap.size) s.heap s.heap [] := va_S.rf
  obtain ⟨A, hAe, hD, hA, hz, hRo, hwk, hnR⟩ := xM_start hb0 hPr hP hD0
  rw [hAe] at hS ⊢
  have hl := lv_entry ([.ref mo, .long p1, .long p2, .int p3]) (n := 6) (Nat.le_of_ble_eq_true rfl)
  rw [lg_entry_eq]
  generalize (lg_sl ([.ref mo, .long p1, .long p2, .int p3]) ++ List.replicate (6 - (lg_sl ([.ref mo, .long p1, .long p2, .int p3])).length) Slot.unset).toArray = ls at hl ⊢
  have hl : lv_has ls 6 [(0, .ref mo), (1, .long p1), (3, .long p2), (5, .int p3)] := hl
  refine lv_aload_n hx hb dX6_divideLong_0 rfl (lv_at hl 0 rfl) ?_
  refine lv_iconst (v := 0) hx hb dX6_divideLong_1 (by decide) ?_
  refine va_put (D := (dC, dI)) (ci := 6) (v := .int 0) (ty := .int) (C := RX6) (T := TX6) (N := 13) hx hb (ly_6 h hb0) (fun _ z => z) tyX6 tyX6_ok nmX6 hown hK hP hD hS 0 rfl rfl 0 (by decide) (k_531 h hb0) (fun _ z => z) rfl (by decide +kernel) rfl rfl (Nat.le_of_ble_eq_true rfl) dX6_divideLong_2 (fun H locs hP hD hS => ?_)
  have hP : va_P (dC, dI) vwCl [(mo, .inr (6, [.int 0, .ref mr, .ref ml, .int wr, .int gm, .int gh, .int gw, .int bm, .int bd, .int bc, .int ca, .ref ms, .ref mv]))] H := hP
  have hD : va_D A [(mo, .inr (6, [.int 0, .ref mr, .ref ml, .int wr, .int gm, .int gh, .int gw, .int bm, .int bd, .int bc, .int ca, .ref ms, .ref mv]))] := hD
  refine lv_lload_n hx hb dX6_divideLong_5 rfl (lv_at hl 2 rfl) ?_
  refine lv_lconst (v := 0) hx hb dX6_divideLong_6 (by decide) ?_
  refine xlcmp hx hb dX6_divideLong_7 (fun v hv => ?_)
  refine lv_if_ne (tgt := 18) hx hb dX6_divideLong_8 (by decide) (fun c_1 => ?_) (fun c_1 => ?_)
  · refine lv_iload hx hb dX6_divideLong_18 (lv_at hl 3 rfl) ?_
    refine lv_if_eq (tgt := 29) hx hb dX6_divideLong_20 (by decide) (fun c_2 => ?_) (fun c_2 => ?_)
    · refine lv_lload_n hx hb dX6_divideLong_29 rfl (lv_at hl 1 rfl) ?_
      refine lv_lload_n hx hb dX6_divideLong_30 rfl (lv_at hl 2 rfl) ?_
      refine lv_ldiv hx hb dX6_divideLong_31 hc ?_
      exact W.lret hx hb hr (fun t ht _ => ⟨(some (.long (p1 / p2))), _, rfl, ⟨by rw [if_pos c_2], rfl⟩, by rw [ht]; exact hP, hD, hS.F ht⟩) (fun q z => hS.2.2 q z) dX6_divideLong_32
    · refine lv_lload_n hx hb dX6_divideLong_23 rfl (lv_at hl 1 rfl) ?_
      refine lv_lload_n hx hb dX6_divideLong_24 rfl (lv_at hl 2 rfl) ?_
      refine lv_lrem hx hb dX6_divideLong_25 hc ?_
      refine lv_goto (tgt := 32) hx hb dX6_divideLong_26 (by decide) ?_
      exact W.lret hx hb hr (fun t ht _ => ⟨(some (.long (p1 - p1 / p2 * p2))), _, rfl, ⟨by rw [if_neg c_2], rfl⟩, by rw [ht]; exact hP, hD, hS.F ht⟩) (fun q z => hS.2.2 q z) dX6_divideLong_32
  · exact absurd (hv.mp c_1) hc
set_option maxHeartbeats 4000000 in
set_option maxRecDepth 100000 in
theorem m_divideLong_Z {l : Launch} {s0 : State} {a0 : Array Value} {dC : Nat → ClassId} {dI : Nat → Nat → Nat} {cA : Nat → ClassId} (h : xC l s0 a0 dC dI cA) (mo mr ml ms mv : Nat) (th wr gm gh gw bm bd bc ca : Int32) (p1 p2 : Int64) (p3 : Int32) (sz : Nat) (hc : p2 = 0) : Met l yX6_divideLong [Cond.code yX6_divideLong cX6_divideLong 6 (some .long)] ({ frames := 1, cells := 0, slots := 0, locals := 40 } : Room) (xPM s0 (dC, dI) [.ref mo, .long p1, .long p2, .int p3] [] [(mo, .inr (6, [.int th, .ref mr, .ref ml, .int wr, .int gm, .int gh, .int gw, .int bm, .int bd, .int bc, .int ca, .ref ms, .ref mv]))] sz) (xQM (dC, dI) (va_A [(mo, .inr (6, [.int th, .ref mr, .ref ml, .int wr, .int gm, .int gh, .int gw, .int bm, .int bd, .int bc, .int ca, .ref ms, .ref mv]))] sz) (fun r w1 => r = some (.long 0) ∧ w1 = [(mo, .inr (6, [.int 1, .ref mr, .ref ml, .int wr, .int gm, .int gh, .int gw, .int bm, .int bd, .int bc, .int ca, .ref ms, .ref mv]))])) 0 0 (va_A [(mo, .inr (6, [.int th, .ref mr, .ref ml, .int wr, .int gm, .int gh, .int gw, .int bm, .int bd, .int bc, .int ca, .ref ms, .ref mv]))] sz) := by
  refine Met.ofW (cc := cX6_divideLong) (maxL := 6) (ret := (some .long)) (by decide) rfl ?_
  intro p e s m args below meth c s₁ B hml hv
  obtain ⟨rfl, rfl, hb0, hPr, hP, hD0⟩ := hv
  have hx := B.exec
  have hb := B.bytes
  have hr := B.returns
  have hown : s.vm.findClass RX6 = some m.cls := findClass_of_methodNamed B.named
  have hlocks := B.notSynchronized
  have hK := h.K hb0
  have hS : va_S (va_A [(mo, .inr (6, [.int th, .ref mr, .ref ml, .int wr, .int gm, .int gh, .int gw, .int bm, .int bd, .int bc, .int ca, .ref ms, .ref mv]))] s.heap.size) s.heap s.heap [] := va_S.rf
  obtain ⟨A, hAe, hD, hA, hz, hRo, hwk, hnR⟩ := xM_start hb0 hPr hP hD0
  rw [hAe] at hS ⊢
  have hl := lv_entry ([.ref mo, .long p1, .long p2, .int p3]) (n := 6) (Nat.le_of_ble_eq_true rfl)
  rw [lg_entry_eq]
  generalize (lg_sl ([.ref mo, .long p1, .long p2, .int p3]) ++ List.replicate (6 - (lg_sl ([.ref mo, .long p1, .long p2, .int p3])).length) Slot.unset).toArray = ls at hl ⊢
  have hl : lv_has ls 6 [(0, .ref mo), (1, .long p1), (3, .long p2), (5, .int p3)] := hl
  refine lv_aload_n hx hb dX6_divideLong_0 rfl (lv_at hl 0 rfl) ?_
  refine lv_iconst (v := 0) hx hb dX6_divideLong_1 (by decide) ?_
  refine va_put (D := (dC, dI)) (ci := 6) (v := .int 0) (ty := .int) (C := RX6) (T := TX6) (N := 13) hx hb (ly_6 h hb0) (fun _ z => z) tyX6 tyX6_ok nmX6 hown hK hP hD hS 0 rfl rfl 0 (by decide) (k_531 h hb0) (fun _ z => z) rfl (by decide +kernel) rfl rfl (Nat.le_of_ble_eq_true rfl) dX6_divideLong_2 (fun H locs hP hD hS => ?_)
  have hP : va_P (dC, dI) vwCl [(mo, .inr (6, [.int 0, .ref mr, .ref ml, .int wr, .int gm, .int gh, .int gw, .int bm, .int bd, .int bc, .int ca, .ref ms, .ref mv]))] H := hP
  have hD : va_D A [(mo, .inr (6, [.int 0, .ref mr, .ref ml, .int wr, .int gm, .int gh, .int gw, .int bm, .int bd, .int bc, .int ca, .ref ms, .ref mv]))] := hD
  refine lv_lload_n hx hb dX6_divideLong_5 rfl (lv_at hl 2 rfl) ?_
  refine lv_lconst (v := 0) hx hb dX6_divideLong_6 (by decide) ?_
  refine xlcmp hx hb dX6_divideLong_7 (fun v hv => ?_)
  refine lv_if_ne (tgt := 18) hx hb dX6_divideLong_8 (by decide) (fun c_1 => ?_) (fun c_1 => ?_)
  · exact absurd (hv.mpr hc) c_1
  · refine lv_aload_n hx hb dX6_divideLong_11 rfl (lv_at hl 0 rfl) ?_
    refine lv_iconst (v := 1) hx hb dX6_divideLong_12 (by decide) ?_
    refine xm_of (wc := [(mo, .inr (6, [.int 0, .ref mr, .ref ml, .int wr, .int gm, .int gh, .int gw, .int bm, .int bd, .int bc, .int ca, .ref ms, .ref mv]))]) (wo := []) (va_runV (As := [.int 1]) (rest := []) ⟨hx, hb, hml, hown, xTs⟩ (c_fails h mo mr ml ms mv 0 wr gm gh gw bm bd bc ca 1 _) ⟨xB (n := 1) (k_582 h hb0) (k_5 h hb0) (k_579 h hb0) (by decide) rfl rfl rfl (by decide) (by decide), (k_581 h hb0), (ks_3 h hb0)⟩ (xpMV (wr := []) (wc := [(mo, .inr (6, [.int 0, .ref mr, .ref ml, .int wr, .int gm, .int gh, .int gw, .int bm, .int bd, .int bc, .int ca, .ref ms, .ref mv]))]) hb0 hS hz (va_P.sub hP [] rfl) (va_P.sub hP [0] rfl) (va_D.sub (hwk _ hD) [0] rfl rfl) (va_recv hK hP (ci := 6) (q0 := 0) rfl rfl)) rfl rfl hl.1 rfl (lv_room (Nat.le_of_ble_eq_true rfl)) dX6_divideLong_13 ⟨(Nat.le_of_ble_eq_true rfl), (Nat.le_of_ble_eq_true rfl)⟩) hP hD hS hA [0] [] rfl rfl rfl (by decide) (fun r w1 H locs hΦ hP hD hS => ?_)
    obtain ⟨rfl, rfl⟩ := hΦ
    have hP : va_P (dC, dI) vwCl [(mo, .inr (6, [.int 1, .ref mr, .ref ml, .int wr, .int gm, .int gh, .int gw, .int bm, .int bd, .int bc, .int ca, .ref ms, .ref mv]))] H := hP
    have hD : va_D A [(mo, .inr (6, [.int 1, .ref mr, .ref ml, .int wr, .int gm, .int gh, .int gw, .int bm, .int bd, .int bc, .int ca, .ref ms, .ref mv]))] := hD
    refine lv_i2l hx hb dX6_divideLong_16 rfl ?_
    exact W.lret hx hb hr (fun t ht _ => ⟨(some (.long ((0 : Int32).toInt64))), _, rfl, ⟨rfl, rfl⟩, by rw [ht]; exact hP, hD, hS.F ht⟩) (fun q z => hS.2.2 q z) dX6_divideLong_17
set_option maxHeartbeats 4000000 in
set_option maxRecDepth 100000 in
theorem m_raise_N {l : Launch} {s0 : State} {a0 : Array Value} {dC : Nat → ClassId} {dI : Nat → Nat → Nat} {cA : Nat → ClassId} (h : xC l s0 a0 dC dI cA) (mo mr ml ms mv : Nat) (th wr gm gh gw bm bd bc ca : Int32) (p1 : Int32) (sz : Nat) (ht : p1 = 0) : Met l yX6_raise [Cond.code yX6_raise cX6_raise 2 (some .int)] ({ frames := 1, cells := 0, slots := 0, locals := 40 } : Room) (xPM s0 (dC, dI) [.ref mo, .int p1] [] [(mo, .inr (6, [.int th, .ref mr, .ref ml, .int wr, .int gm, .int gh, .int gw, .int bm, .int bd, .int bc, .int ca, .ref ms, .ref mv]))] sz) (xQM (dC, dI) (va_A [(mo, .inr (6, [.int th, .ref mr, .ref ml, .int wr, .int gm, .int gh, .int gw, .int bm, .int bd, .int bc, .int ca, .ref ms, .ref mv]))] sz) (fun r w1 => r = some (.int 0) ∧ w1 = [(mo, .inr (6, [.int 1, .ref mr, .ref ml, .int wr, .int gm, .int gh, .int gw, .int bm, .int bd, .int bc, .int ca, .ref ms, .ref mv]))])) 0 0 (va_A [(mo, .inr (6, [.int th, .ref mr, .ref ml, .int wr, .int gm, .int gh, .int gw, .int bm, .int bd, .int bc, .int ca, .ref ms, .ref mv]))] sz) := by
  refine Met.ofW (cc := cX6_raise) (maxL := 2) (ret := (some .int)) (by decide) rfl ?_
  intro p e s m args below meth c s₁ B hml hv
  obtain ⟨rfl, rfl, hb0, hPr, hP, hD0⟩ := hv
  have hx := B.exec
  have hb := B.bytes
  have hr := B.returns
  have hown : s.vm.findClass RX6 = some m.cls := findClass_of_methodNamed B.named
  have hlocks := B.notSynchronized
  have hK := h.K hb0
  have hS : va_S (va_A [(mo, .inr (6, [.int th, .ref mr, .ref ml, .int wr, .int gm, .int gh, .int gw, .int bm, .int bd, .int bc, .int ca, .ref ms, .ref mv]))] s.heap.size) s.heap s.heap [] := va_S.rf
  obtain ⟨A, hAe, hD, hA, hz, hRo, hwk, hnR⟩ := xM_start hb0 hPr hP hD0
  rw [hAe] at hS ⊢
  have hl := lv_entry ([.ref mo, .int p1]) (n := 2) (Nat.le_of_ble_eq_true rfl)
  rw [lg_entry_eq]
  generalize (lg_sl ([.ref mo, .int p1]) ++ List.replicate (2 - (lg_sl ([.ref mo, .int p1])).length) Slot.unset).toArray = ls at hl ⊢
  have hl : lv_has ls 2 [(0, .ref mo), (1, .int p1)] := hl
  refine lv_aload_n hx hb dX6_raise_0 rfl (lv_at hl 0 rfl) ?_
  refine lv_iconst (v := 0) hx hb dX6_raise_1 (by decide) ?_
  refine va_put (D := (dC, dI)) (ci := 6) (v := .int 0) (ty := .int) (C := RX6) (T := TX6) (N := 13) hx hb (ly_6 h hb0) (fun _ z => z) tyX6 tyX6_ok nmX6 hown hK hP hD hS 0 rfl rfl 0 (by decide) (k_531 h hb0) (fun _ z => z) rfl (by decide +kernel) rfl rfl (Nat.le_of_ble_eq_true rfl) dX6_raise_2 (fun H locs hP hD hS => ?_)
  have hP : va_P (dC, dI) vwCl [(mo, .inr (6, [.int 0, .ref mr, .ref ml, .int wr, .int gm, .int gh, .int gw, .int bm, .int bd, .int bc, .int ca, .ref ms, .ref mv]))] H := hP
  have hD : va_D A [(mo, .inr (6, [.int 0, .ref mr, .ref ml, .int wr, .int gm, .int gh, .int gw, .int bm, .int bd, .int bc, .int ca, .ref ms, .ref mv]))] := hD
  refine lv_iload_n hx hb dX6_raise_5 rfl (lv_at hl 1 rfl) ?_
  refine lv_if_eq (tgt := 17) hx hb dX6_raise_6 (by decide) (fun c_1 => ?_) (fun c_1 => ?_)
  · refine lv_aload_n hx hb dX6_raise_17 rfl (lv_at hl 0 rfl) ?_
    refine lv_iconst (v := 1) hx hb dX6_raise_18 (by decide) ?_
    refine xm_of (wc := [(mo, .inr (6, [.int 0, .ref mr, .ref ml, .int wr, .int gm, .int gh, .int gw, .int bm, .int bd, .int bc, .int ca, .ref ms, .ref mv]))]) (wo := []) (va_runV (As := [.int 1]) (rest := []) ⟨hx, hb, hml, hown, xTs⟩ (c_fails h mo mr ml ms mv 0 wr gm gh gw bm bd bc ca 1 _) ⟨xB (n := 1) (k_582 h hb0) (k_5 h hb0) (k_579 h hb0) (by decide) rfl rfl rfl (by decide) (by decide), (k_581 h hb0), (ks_3 h hb0)⟩ (xpMV (wr := []) (wc := [(mo, .inr (6, [.int 0, .ref mr, .ref ml, .int wr, .int gm, .int gh, .int gw, .int bm, .int bd, .int bc, .int ca, .ref ms, .ref mv]))]) hb0 hS hz (va_P.sub hP [] rfl) (va_P.sub hP [0] rfl) (va_D.sub (hwk _ hD) [0] rfl rfl) (va_recv hK hP (ci := 6) (q0 := 0) rfl rfl)) rfl rfl hl.1 rfl (lv_room (Nat.le_of_ble_eq_true rfl)) dX6_raise_19 ⟨(Nat.le_of_ble_eq_true rfl), (Nat.le_of_ble_eq_true rfl)⟩) hP hD hS hA [0] [] rfl rfl rfl (by decide) (fun r w1 H locs hΦ hP hD hS => ?_)
    obtain ⟨rfl, rfl⟩ := hΦ
    have hP : va_P (dC, dI) vwCl [(mo, .inr (6, [.int 1, .ref mr, .ref ml, .int wr, .int gm, .int gh, .int gw, .int bm, .int bd, .int bc, .int ca, .ref ms, .ref mv]))] H := hP
    have hD : va_D A [(mo, .inr (6, [.int 1, .ref mr, .ref ml, .int wr, .int gm, .int gh, .int gw, .int bm, .int bd, .int bc, .int ca, .ref ms, .ref mv]))] := hD
    exact W.iret hx hb hr (fun t ht _ => ⟨(some (.int 0)), _, rfl, ⟨rfl, rfl⟩, by rw [ht]; exact hP, hD, hS.F ht⟩) (fun q z => hS.2.2 q z) dX6_raise_22
  · exact absurd ht c_1
set_option maxHeartbeats 4000000 in
set_option maxRecDepth 100000 in
theorem m_raise_Z {l : Launch} {s0 : State} {a0 : Array Value} {dC : Nat → ClassId} {dI : Nat → Nat → Nat} {cA : Nat → ClassId} (h : xC l s0 a0 dC dI cA) (mo mr ml ms mv : Nat) (th wr gm gh gw bm bd bc ca : Int32) (p1 : Int32) (sz : Nat) (ht : ¬ p1 = 0) : Met l yX6_raise [Cond.code yX6_raise cX6_raise 2 (some .int)] ({ frames := 1, cells := 0, slots := 0, locals := 40 } : Room) (xPM s0 (dC, dI) [.ref mo, .int p1] [] [(mo, .inr (6, [.int th, .ref mr, .ref ml, .int wr, .int gm, .int gh, .int gw, .int bm, .int bd, .int bc, .int ca, .ref ms, .ref mv]))] sz) (xQM (dC, dI) (va_A [(mo, .inr (6, [.int th, .ref mr, .ref ml, .int wr, .int gm, .int gh, .int gw, .int bm, .int bd, .int bc, .int ca, .ref ms, .ref mv]))] sz) (fun r w1 => r = some (.int 0) ∧ w1 = [(mo, .inr (6, [.int 2, .ref mr, .ref ml, .int wr, .int gm, .int gh, .int gw, .int bm, .int bd, .int bc, .int ca, .ref ms, .ref mv]))])) 0 0 (va_A [(mo, .inr (6, [.int th, .ref mr, .ref ml, .int wr, .int gm, .int gh, .int gw, .int bm, .int bd, .int bc, .int ca, .ref ms, .ref mv]))] sz) := by
  refine Met.ofW (cc := cX6_raise) (maxL := 2) (ret := (some .int)) (by decide) rfl ?_
  intro p e s m args below meth c s₁ B hml hv
  obtain ⟨rfl, rfl, hb0, hPr, hP, hD0⟩ := hv
  have hx := B.exec
  have hb := B.bytes
  have hr := B.returns
  have hown : s.vm.findClass RX6 = some m.cls := findClass_of_methodNamed B.named
  have hlocks := B.notSynchronized
  have hK := h.K hb0
  have hS : va_S (va_A [(mo, .inr (6, [.int th, .ref mr, .ref ml, .int wr, .int gm, .int gh, .int gw, .int bm, .int bd, .int bc, .int ca, .ref ms, .ref mv]))] s.heap.size) s.heap s.heap [] := va_S.rf
  obtain ⟨A, hAe, hD, hA, hz, hRo, hwk, hnR⟩ := xM_start hb0 hPr hP hD0
  rw [hAe] at hS ⊢
  have hl := lv_entry ([.ref mo, .int p1]) (n := 2) (Nat.le_of_ble_eq_true rfl)
  rw [lg_entry_eq]
  generalize (lg_sl ([.ref mo, .int p1]) ++ List.replicate (2 - (lg_sl ([.ref mo, .int p1])).length) Slot.unset).toArray = ls at hl ⊢
  have hl : lv_has ls 2 [(0, .ref mo), (1, .int p1)] := hl
  refine lv_aload_n hx hb dX6_raise_0 rfl (lv_at hl 0 rfl) ?_
  refine lv_iconst (v := 0) hx hb dX6_raise_1 (by decide) ?_
  refine va_put (D := (dC, dI)) (ci := 6) (v := .int 0) (ty := .int) (C := RX6) (T := TX6) (N := 13) hx hb (ly_6 h hb0) (fun _ z => z) tyX6 tyX6_ok nmX6 hown hK hP hD hS 0 rfl rfl 0 (by decide) (k_531 h hb0) (fun _ z => z) rfl (by decide +kernel) rfl rfl (Nat.le_of_ble_eq_true rfl) dX6_raise_2 (fun H locs hP hD hS => ?_)
  have hP : va_P (dC, dI) vwCl [(mo, .inr (6, [.int 0, .ref mr, .ref ml, .int wr, .int gm, .int gh, .int gw, .int bm, .int bd, .int bc, .int ca, .ref ms, .ref mv]))] H := hP
  have hD : va_D A [(mo, .inr (6, [.int 0, .ref mr, .ref ml, .int wr, .int gm, .int gh, .int gw, .int bm, .int bd, .int bc, .int ca, .ref ms, .ref mv]))] := hD
  refine lv_iload_n hx hb dX6_raise_5 rfl (lv_at hl 1 rfl) ?_
  refine lv_if_eq (tgt := 17) hx hb dX6_raise_6 (by decide) (fun c_1 => ?_) (fun c_1 => ?_)
  · exact absurd c_1 ht
  · refine lv_aload_n hx hb dX6_raise_9 rfl (lv_at hl 0 rfl) ?_
    refine lv_iconst (v := 2) hx hb dX6_raise_10 (by decide) ?_
    refine xm_of (wc := [(mo, .inr (6, [.int 0, .ref mr, .ref ml, .int wr, .int gm, .int gh, .int gw, .int bm, .int bd, .int bc, .int ca, .ref ms, .ref mv]))]) (wo := []) (va_runV (As := [.int 2]) (rest := []) ⟨hx, hb, hml, hown, xTs⟩ (c_fails h mo mr ml ms mv 0 wr gm gh gw bm bd bc ca 2 _) ⟨xB (n := 1) (k_582 h hb0) (k_5 h hb0) (k_579 h hb0) (by decide) rfl rfl rfl (by decide) (by decide), (k_581 h hb0), (ks_3 h hb0)⟩ (xpMV (wr := []) (wc := [(mo, .inr (6, [.int 0, .ref mr, .ref ml, .int wr, .int gm, .int gh, .int gw, .int bm, .int bd, .int bc, .int ca, .ref ms, .ref mv]))]) hb0 hS hz (va_P.sub hP [] rfl) (va_P.sub hP [0] rfl) (va_D.sub (hwk _ hD) [0] rfl rfl) (va_recv hK hP (ci := 6) (q0 := 0) rfl rfl)) rfl rfl hl.1 rfl (lv_room (Nat.le_of_ble_eq_true rfl)) dX6_raise_11 ⟨(Nat.le_of_ble_eq_true rfl), (Nat.le_of_ble_eq_true rfl)⟩) hP hD hS hA [0] [] rfl rfl rfl (by decide) (fun r w1 H locs hΦ hP hD hS => ?_)
    obtain ⟨rfl, rfl⟩ := hΦ
    have hP : va_P (dC, dI) vwCl [(mo, .inr (6, [.int 2, .ref mr, .ref ml, .int wr, .int gm, .int gh, .int gw, .int bm, .int bd, .int bc, .int ca, .ref ms, .ref mv]))] H := hP
    have hD : va_D A [(mo, .inr (6, [.int 2, .ref mr, .ref ml, .int wr, .int gm, .int gh, .int gw, .int bm, .int bd, .int bc, .int ca, .ref ms, .ref mv]))] := hD
    refine lv_goto (tgt := 22) hx hb dX6_raise_14 (by decide) ?_
    exact W.iret hx hb hr (fun t ht _ => ⟨(some (.int 0)), _, rfl, ⟨rfl, rfl⟩, by rw [ht]; exact hP, hD, hS.F ht⟩) (fun q z => hS.2.2 q z) dX6_raise_22
set_option maxHeartbeats 4000000 in
set_option maxRecDepth 100000 in
theorem m_init {l : Launch} {s0 : State} {a0 : Array Value} {dC : Nat → ClassId} {dI : Nat → Nat → Nat} {cA : Nat → ClassId} (h : xC l s0 a0 dC dI cA) (mo : Nat) (sz : Nat)  : Met l yX6_init [Cond.code yX6_init cX6_init 2 none] ({ frames := 1, cells := 4, slots := 368, locals := 40 } : Room) (xPM s0 (dC, dI) [.ref mo] [] [(mo, .inr (6, [.int 0, .null, .null, .int 0, .int 0, .int 0, .int 0, .int 0, .int 0, .int 0, .int 0, .null, .null]))] sz) (xQM (dC, dI) (va_A [(mo, .inr (6, [.int 0, .null, .null, .int 0, .int 0, .int 0, .int 0, .int 0, .int 0, .int 0, .int 0, .null, .null]))] sz) (fun r w1 => ∃ mr ml ms mv : Nat, r = none ∧ w1 = [(mo, .inr (6, [.int 0, .ref mr, .ref ml, .int 0, .int 0, .int 0, .int 0, .int 0, .int 0, .int 0, .int 0, .ref ms, .ref mv])), (mr, .inl (cA 1, 320, .inr (.inl (fun _ => 0)))), (ml, .inl (cA 0, 8, .inl (lz 8))), (ms, .inl (cA 0, 20, .inl (fun _ => 0))), (mv, .inl (cA 0, 20, .inl (fun _ => 0)))])) 4 368 (va_A [(mo, .inr (6, [.int 0, .null, .null, .int 0, .int 0, .int 0, .int 0, .int 0, .int 0, .int 0, .int 0, .null, .null]))] sz) := by
  refine Met.ofW (cc := cX6_init) (maxL := 2) (ret := none) (by decide) rfl ?_
  intro p e s m args below meth c s₁ B hml hv
  obtain ⟨rfl, rfl, hb0, hPr, hP, hD0⟩ := hv
  have hx := B.exec
  have hb := B.bytes
  have hr := B.returns
  have hown : s.vm.findClass RX6 = some m.cls := findClass_of_methodNamed B.named
  have hlocks := B.notSynchronized
  have hK := h.K hb0
  have hin : meth.name = "<init>" := (name_of_methodNamed B.named B.method).1
  have hS : va_S (va_A [(mo, .inr (6, [.int 0, .null, .null, .int 0, .int 0, .int 0, .int 0, .int 0, .int 0, .int 0, .int 0, .null, .null]))] s.heap.size) s.heap s.heap [] := va_S.rf
  obtain ⟨A, hAe, hD, hA, hz, hRo, hwk, hnR⟩ := xM_start hb0 hPr hP hD0
  rw [hAe] at hS ⊢
  have hl := lv_entry ([.ref mo]) (n := 2) (Nat.le_of_ble_eq_true rfl)
  rw [lg_entry_eq]
  generalize (lg_sl ([.ref mo]) ++ List.replicate (2 - (lg_sl ([.ref mo])).length) Slot.unset).toArray = ls at hl ⊢
  have hl : lv_has ls 2 [(0, .ref mo)] := hl
  refine lv_aload_n hx hb dX6_init_0 rfl (lv_at hl 0 rfl) ?_
  refine W.objInit hx hb hown (k_530 h hb0) (k_24 h hb0) (k_25 h hb0) rfl (hl.1.trans hml.symm) rfl dX6_init_1 (Nat.le_of_ble_eq_true rfl) (Nat.le_of_ble_eq_true rfl) ?_
  show W _ _ _ _ _ _ _ _ _ _ _ _ _ _ _ (F0 m 4 ls [])
  refine lv_aload_n hx hb dX6_init_4 rfl (lv_at hl 0 rfl) ?_
  refine lv_sipush (v := 320) hx hb dX6_init_5 (by decide) ?_
  refine va_newa (atype := .long) (ty := .long) (N' := 320) (a0 := (320, .inr (.inl (fun _ => 0)))) hx hb (k_61 h hb0) rfl hK hP hD hS hA (fun _ => rfl) (by decide) (by decide) (by decide) (Nat.le_of_ble_eq_true rfl) (Nat.le_of_ble_eq_true rfl) dX6_init_8 (fun mr cN H hKn hP hD hS => ?_)
  obtain rfl : cN = cA 1 := xRA_eq (hKn.2 10 _ rfl).2 (hK.2 1 _ rfl).2
  clear hKn
  have hP : va_P (dC, dI) vwCl [(mo, .inr (6, [.int 0, .null, .null, .int 0, .int 0, .int 0, .int 0, .int 0, .int 0, .int 0, .int 0, .null, .null])), (mr, .inl (cA 1, 320, .inr (.inl (fun _ => 0))))] H := hP
  have hD : va_D A [(mo, .inr (6, [.int 0, .null, .null, .int 0, .int 0, .int 0, .int 0, .int 0, .int 0, .int 0, .int 0, .null, .null])), (mr, .inl (cA 1, 320, .inr (.inl (fun _ => 0))))] := hD
  refine va_putF (D := (dC, dI)) (ci := 6) (v := .ref mr) (ty := .array .long) (C := RX6) (T := TX6) (N := 13) hx hb (ly_6 h hb0) (fun _ z => z) tyX6 tyX6_ok nmX6 hown hK hP hD hS 0 rfl rfl 1 (by decide) (k_532 h hb0) (fun _ z => z) rfl hin rfl (by decide +kernel) rfl rfl (Nat.le_of_ble_eq_true rfl) dX6_init_10 (fun H locs hP hD hS => ?_)
  have hP : va_P (dC, dI) vwCl [(mo, .inr (6, [.int 0, .ref mr, .null, .int 0, .int 0, .int 0, .int 0, .int 0, .int 0, .int 0, .int 0, .null, .null])), (mr, .inl (cA 1, 320, .inr (.inl (fun _ => 0))))] H := hP
  have hD : va_D A [(mo, .inr (6, [.int 0, .ref mr, .null, .int 0, .int 0, .int 0, .int 0, .int 0, .int 0, .int 0, .int 0, .null, .null])), (mr, .inl (cA 1, 320, .inr (.inl (fun _ => 0))))] := hD
  refine lv_aload_n hx hb dX6_init_13 rfl (lv_at hl 0 rfl) ?_
  refine lv_bipush (v := 8) hx hb dX6_init_14 (by decide) ?_
  refine va_newa (atype := .int) (ty := .int) (N' := 8) (a0 := (8, .inl (fun _ => 0))) hx hb (k_60 h hb0) rfl hK hP hD hS hA (fun _ => rfl) (by decide) (by decide) (by decide) (Nat.le_of_ble_eq_true rfl) (Nat.le_of_ble_eq_true rfl) dX6_init_16 (fun ml cN H hKn hP hD hS => ?_)
  obtain rfl : cN = cA 0 := xRA_eq (hKn.2 10 _ rfl).2 (hK.2 0 _ rfl).2
  clear hKn
  have hP : va_P (dC, dI) vwCl [(mo, .inr (6, [.int 0, .ref mr, .null, .int 0, .int 0, .int 0, .int 0, .int 0, .int 0, .int 0, .int 0, .null, .null])), (mr, .inl (cA 1, 320, .inr (.inl (fun _ => 0)))), (ml, .inl (cA 0, 8, .inl (fun _ => 0)))] H := hP
  have hD : va_D A [(mo, .inr (6, [.int 0, .ref mr, .null, .int 0, .int 0, .int 0, .int 0, .int 0, .int 0, .int 0, .int 0, .null, .null])), (mr, .inl (cA 1, 320, .inr (.inl (fun _ => 0)))), (ml, .inl (cA 0, 8, .inl (fun _ => 0)))] := hD
  refine va_putF (D := (dC, dI)) (ci := 6) (v := .ref ml) (ty := .array .int) (C := RX6) (T := TX6) (N := 13) hx hb (ly_6 h hb0) (fun _ z => z) tyX6 tyX6_ok nmX6 hown hK hP hD hS 0 rfl rfl 2 (by decide) (k_533 h hb0) (fun _ z => z) rfl hin rfl (by decide +kernel) rfl rfl (Nat.le_of_ble_eq_true rfl) dX6_init_18 (fun H locs hP hD hS => ?_)
  have hP : va_P (dC, dI) vwCl [(mo, .inr (6, [.int 0, .ref mr, .ref ml, .int 0, .int 0, .int 0, .int 0, .int 0, .int 0, .int 0, .int 0, .null, .null])), (mr, .inl (cA 1, 320, .inr (.inl (fun _ => 0)))), (ml, .inl (cA 0, 8, .inl (fun _ => 0)))] H := hP
  have hD : va_D A [(mo, .inr (6, [.int 0, .ref mr, .ref ml, .int 0, .int 0, .int 0, .int 0, .int 0, .int 0, .int 0, .int 0, .null, .null])), (mr, .inl (cA 1, 320, .inr (.inl (fun _ => 0)))), (ml, .inl (cA 0, 8, .inl (fun _ => 0)))] := hD
  refine lv_aload_n hx hb dX6_init_21 rfl (lv_at hl 0 rfl) ?_
  refine lv_bipush (v := 20) hx hb dX6_init_22 (by decide) ?_
  refine va_newa (atype := .int) (ty := .int) (N' := 20) (a0 := (20, .inl (fun _ => 0))) hx hb (k_60 h hb0) rfl hK hP hD hS hA (fun _ => rfl) (by decide) (by decide) (by decide) (Nat.le_of_ble_eq_true rfl) (Nat.le_of_ble_eq_true rfl) dX6_init_24 (fun ms cN H hKn hP hD hS => ?_)
  obtain rfl : cN = cA 0 := xRA_eq (hKn.2 10 _ rfl).2 (hK.2 0 _ rfl).2
  clear hKn
  have hP : va_P (dC, dI) vwCl [(mo, .inr (6, [.int 0, .ref mr, .ref ml, .int 0, .int 0, .int 0, .int 0, .int 0, .int 0, .int 0, .int 0, .null, .null])), (mr, .inl (cA 1, 320, .inr (.inl (fun _ => 0)))), (ml, .inl (cA 0, 8, .inl (fun _ => 0))), (ms, .inl (cA 0, 20, .inl (fun _ => 0)))] H := hP
  have hD : va_D A [(mo, .inr (6, [.int 0, .ref mr, .ref ml, .int 0, .int 0, .int 0, .int 0, .int 0, .int 0, .int 0, .int 0, .null, .null])), (mr, .inl (cA 1, 320, .inr (.inl (fun _ => 0)))), (ml, .inl (cA 0, 8, .inl (fun _ => 0))), (ms, .inl (cA 0, 20, .inl (fun _ => 0)))] := hD
  refine va_putF (D := (dC, dI)) (ci := 6) (v := .ref ms) (ty := .array .int) (C := RX6) (T := TX6) (N := 13) hx hb (ly_6 h hb0) (fun _ z => z) tyX6 tyX6_ok nmX6 hown hK hP hD hS 0 rfl rfl 11 (by decide) (k_542 h hb0) (fun _ z => z) rfl hin rfl (by decide +kernel) rfl rfl (Nat.le_of_ble_eq_true rfl) dX6_init_26 (fun H locs hP hD hS => ?_)
  have hP : va_P (dC, dI) vwCl [(mo, .inr (6, [.int 0, .ref mr, .ref ml, .int 0, .int 0, .int 0, .int 0, .int 0, .int 0, .int 0, .int 0, .ref ms, .null])), (mr, .inl (cA 1, 320, .inr (.inl (fun _ => 0)))), (ml, .inl (cA 0, 8, .inl (fun _ => 0))), (ms, .inl (cA 0, 20, .inl (fun _ => 0)))] H := hP
  have hD : va_D A [(mo, .inr (6, [.int 0, .ref mr, .ref ml, .int 0, .int 0, .int 0, .int 0, .int 0, .int 0, .int 0, .int 0, .ref ms, .null])), (mr, .inl (cA 1, 320, .inr (.inl (fun _ => 0)))), (ml, .inl (cA 0, 8, .inl (fun _ => 0))), (ms, .inl (cA 0, 20, .inl (fun _ => 0)))] := hD
  refine lv_aload_n hx hb dX6_init_29 rfl (lv_at hl 0 rfl) ?_
  refine lv_bipush (v := 20) hx hb dX6_init_30 (by decide) ?_
  refine va_newa (atype := .int) (ty := .int) (N' := 20) (a0 := (20, .inl (fun _ => 0))) hx hb (k_60 h hb0) rfl hK hP hD hS hA (fun _ => rfl) (by decide) (by decide) (by decide) (Nat.le_of_ble_eq_true rfl) (Nat.le_of_ble_eq_true rfl) dX6_init_32 (fun mv cN H hKn hP hD hS => ?_)
  obtain rfl : cN = cA 0 := xRA_eq (hKn.2 10 _ rfl).2 (hK.2 0 _ rfl).2
  clear hKn
  have hP : va_P (dC, dI) vwCl [(mo, .inr (6, [.int 0, .ref mr, .ref ml, .int 0, .int 0, .int 0, .int 0, .int 0, .int 0, .int 0, .int 0, .ref ms, .null])), (mr, .inl (cA 1, 320, .inr (.inl (fun _ => 0)))), (ml, .inl (cA 0, 8, .inl (fun _ => 0))), (ms, .inl (cA 0, 20, .inl (fun _ => 0))), (mv, .inl (cA 0, 20, .inl (fun _ => 0)))] H := hP
  have hD : va_D A [(mo, .inr (6, [.int 0, .ref mr, .ref ml, .int 0, .int 0, .int 0, .int 0, .int 0, .int 0, .int 0, .int 0, .ref ms, .null])), (mr, .inl (cA 1, 320, .inr (.inl (fun _ => 0)))), (ml, .inl (cA 0, 8, .inl (fun _ => 0))), (ms, .inl (cA 0, 20, .inl (fun _ => 0))), (mv, .inl (cA 0, 20, .inl (fun _ => 0)))] := hD
  refine va_putF (D := (dC, dI)) (ci := 6) (v := .ref mv) (ty := .array .int) (C := RX6) (T := TX6) (N := 13) hx hb (ly_6 h hb0) (fun _ z => z) tyX6 tyX6_ok nmX6 hown hK hP hD hS 0 rfl rfl 12 (by decide) (k_543 h hb0) (fun _ z => z) rfl hin rfl (by decide +kernel) rfl rfl (Nat.le_of_ble_eq_true rfl) dX6_init_34 (fun H locs hP hD hS => ?_)
  have hP : va_P (dC, dI) vwCl [(mo, .inr (6, [.int 0, .ref mr, .ref ml, .int 0, .int 0, .int 0, .int 0, .int 0, .int 0, .int 0, .int 0, .ref ms, .ref mv])), (mr, .inl (cA 1, 320, .inr (.inl (fun _ => 0)))), (ml, .inl (cA 0, 8, .inl (fun _ => 0))), (ms, .inl (cA 0, 20, .inl (fun _ => 0))), (mv, .inl (cA 0, 20, .inl (fun _ => 0)))] H := hP
  have hD : va_D A [(mo, .inr (6, [.int 0, .ref mr, .ref ml, .int 0, .int 0, .int 0, .int 0, .int 0, .int 0, .int 0, .int 0, .ref ms, .ref mv])), (mr, .inl (cA 1, 320, .inr (.inl (fun _ => 0)))), (ml, .inl (cA 0, 8, .inl (fun _ => 0))), (ms, .inl (cA 0, 20, .inl (fun _ => 0))), (mv, .inl (cA 0, 20, .inl (fun _ => 0)))] := hD
  refine lv_iconst (v := 0) hx hb dX6_init_37 (by decide) ?_
  refine lv_istore_n (lv' := [(1, .int 0), (0, .ref mo)]) hx hb dX6_init_38 rfl hl (by decide) rfl (fun ls hl => ?_)
  refine xloop (σ := Array Slot × Heap × List Loc) (fun i z => lv_has z.1 2 [(1, .int (nI i)), (0, .ref mo)] ∧ va_P (dC, dI) vwCl [(mo, .inr (6, [.int 0, .ref mr, .ref ml, .int 0, .int 0, .int 0, .int 0, .int 0, .int 0, .int 0, .int 0, .ref ms, .ref mv])), (mr, .inl (cA 1, 320, .inr (.inl (fun _ => 0)))), (ml, .inl (cA 0, 8, .inl (lz i))), (ms, .inl (cA 0, 20, .inl (fun _ => 0))), (mv, .inl (cA 0, 20, .inl (fun _ => 0)))] z.2.1 ∧ va_D A [(mo, .inr (6, [.int 0, .ref mr, .ref ml, .int 0, .int 0, .int 0, .int 0, .int 0, .int 0, .int 0, .int 0, .ref ms, .ref mv])), (mr, .inl (cA 1, 320, .inr (.inl (fun _ => 0)))), (ml, .inl (cA 0, 8, .inl (lz i))), (ms, .inl (cA 0, 20, .inl (fun _ => 0))), (mv, .inl (cA 0, 20, .inl (fun _ => 0)))] ∧ va_S A s.heap z.2.1 z.2.2) (fun z => W p l e _ s m _ below meth c z.2.1 z.2.2 _ _ _ (F0 m 39 z.1 [])) 8 ?_ ?_ (ls, _, _) ⟨hl, by rw [lz_0]; exact hP, by rw [lz_0]; exact hD, hS⟩
  · rintro i ⟨ls, H, locs⟩ hi ⟨hl, hP, hD, hS⟩ ih
    have hl : lv_has ls 2 [(1, .int (nI i)), (0, .ref mo)] := hl
    have hP : va_P (dC, dI) vwCl [(mo, .inr (6, [.int 0, .ref mr, .ref ml, .int 0, .int 0, .int 0, .int 0, .int 0, .int 0, .int 0, .int 0, .ref ms, .ref mv])), (mr, .inl (cA 1, 320, .inr (.inl (fun _ => 0)))), (ml, .inl (cA 0, 8, .inl (lz i))), (ms, .inl (cA 0, 20, .inl (fun _ => 0))), (mv, .inl (cA 0, 20, .inl (fun _ => 0)))] H := hP
    have hD : va_D A [(mo, .inr (6, [.int 0, .ref mr, .ref ml, .int 0, .int 0, .int 0, .int 0, .int 0, .int 0, .int 0, .int 0, .ref ms, .ref mv])), (mr, .inl (cA 1, 320, .inr (.inl (fun _ => 0)))), (ml, .inl (cA 0, 8, .inl (lz i))), (ms, .inl (cA 0, 20, .inl (fun _ => 0))), (mv, .inl (cA 0, 20, .inl (fun _ => 0)))] := hD
    have hS : va_S A s.heap H locs := hS
    show W p l e _ s m _ below meth c H locs _ _ _ (F0 m 39 ls [])
    refine lv_iload_n hx hb dX6_init_39 rfl (lv_at hl 0 rfl) ?_
    refine lv_bipush (v := 8) hx hb dX6_init_40 (by decide) ?_
    refine lv_icmp_ge (tgt := 58) hx hb dX6_init_42 (by decide) (fun c_1 => ?_) (fun c_1 => ?_)
    · exact absurd c_1 (nI_ge hi (by decide))
    · refine lv_aload_n hx hb dX6_init_45 rfl (lv_at hl 1 rfl) ?_
      refine va_get (D := (dC, dI)) (ci := 6) (v := .ref ml) (C := RX6) (T := TX6) (N := 13) hx hb (ly_6 h hb0) (fun _ z => z) hown hK hP 0 rfl rfl 2 (by decide) (k_533 h hb0) (fun _ z => z) rfl dX6_init_46 ?_
      refine lv_iload_n hx hb dX6_init_49 rfl (lv_at hl 0 rfl) ?_
      refine lv_iconst (v := 3) hx hb dX6_init_50 (by decide) ?_
      refine va_iast hx hb hK hP hD hS 2 0 rfl rfl (vp_in_nI hi (by decide)) dX6_init_51 (fun H locs hP hD hS => ?_)
      have hP : va_P (dC, dI) vwCl [(mo, .inr (6, [.int 0, .ref mr, .ref ml, .int 0, .int 0, .int 0, .int 0, .int 0, .int 0, .int 0, .int 0, .ref ms, .ref mv])), (mr, .inl (cA 1, 320, .inr (.inl (fun _ => 0)))), (ml, .inl (cA 0, 8, .inl (upd (lz i) (nI i).toNatClampNeg 3))), (ms, .inl (cA 0, 20, .inl (fun _ => 0))), (mv, .inl (cA 0, 20, .inl (fun _ => 0)))] H := hP
      have hD : va_D A [(mo, .inr (6, [.int 0, .ref mr, .ref ml, .int 0, .int 0, .int 0, .int 0, .int 0, .int 0, .int 0, .int 0, .ref ms, .ref mv])), (mr, .inl (cA 1, 320, .inr (.inl (fun _ => 0)))), (ml, .inl (cA 0, 8, .inl (upd (lz i) (nI i).toNatClampNeg 3))), (ms, .inl (cA 0, 20, .inl (fun _ => 0))), (mv, .inl (cA 0, 20, .inl (fun _ => 0)))] := hD
      refine lv_iinc (lv' := [(1, .int (nI (i + 1))), (0, .ref mo)]) hx hb dX6_init_52 hl (k := 0) rfl (nI_1 _) (by decide) rfl (fun ls hl => ?_)
      refine lv_goto (tgt := 39) hx hb dX6_init_55 (by decide) ?_
      rw [nI_clamp (by omega), lz_s] at hP hD
      exact ih (ls, _, _) ⟨hl, hP, hD, hS⟩
  · rintro ⟨ls, H, locs⟩ ⟨hl, hP, hD, hS⟩
    have hl : lv_has ls 2 [(1, .int (nI 8)), (0, .ref mo)] := hl
    have hP : va_P (dC, dI) vwCl [(mo, .inr (6, [.int 0, .ref mr, .ref ml, .int 0, .int 0, .int 0, .int 0, .int 0, .int 0, .int 0, .int 0, .ref ms, .ref mv])), (mr, .inl (cA 1, 320, .inr (.inl (fun _ => 0)))), (ml, .inl (cA 0, 8, .inl (lz 8))), (ms, .inl (cA 0, 20, .inl (fun _ => 0))), (mv, .inl (cA 0, 20, .inl (fun _ => 0)))] H := hP
    have hD : va_D A [(mo, .inr (6, [.int 0, .ref mr, .ref ml, .int 0, .int 0, .int 0, .int 0, .int 0, .int 0, .int 0, .int 0, .ref ms, .ref mv])), (mr, .inl (cA 1, 320, .inr (.inl (fun _ => 0)))), (ml, .inl (cA 0, 8, .inl (lz 8))), (ms, .inl (cA 0, 20, .inl (fun _ => 0))), (mv, .inl (cA 0, 20, .inl (fun _ => 0)))] := hD
    have hS : va_S A s.heap H locs := hS
    show W p l e _ s m _ below meth c H locs _ _ _ (F0 m 39 ls [])
    refine lv_iload_n hx hb dX6_init_39 rfl (lv_at hl 0 rfl) ?_
    refine lv_bipush (v := 8) hx hb dX6_init_40 (by decide) ?_
    refine lv_icmp_ge (tgt := 58) hx hb dX6_init_42 (by decide) (fun c_2 => ?_) (fun c_2 => ?_)
    · exact W.vret hx hb hr (fun t ht _ => ⟨none, _, rfl, ⟨mr, ml, ms, mv, rfl, rfl⟩, by rw [ht]; exact hP, hD, hS.F ht⟩) (fun q z => hS.2.2 q z) dX6_init_58
    · exact absurd (by decide) c_2
