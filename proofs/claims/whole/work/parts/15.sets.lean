/-! Writing: the rows', the grid's and the boxes' own methods. -/
def gset (g : Nat → Nat → Int32) (k i : Nat) (v : Int32) : Nat → Nat → Int32 := fun a b => if a = k ∧ b = i then v else g a b
def gz (g : Nat → Nat → Int32) (k n : Nat) : Nat → Nat → Int32 := fun a b => if a = k ∧ b < n then 0 else g a b
theorem gz_0 (g : Nat → Nat → Int32) (k : Nat) : gz g k 0 = g := by funext a b; simp [gz]
theorem gz_s (g : Nat → Nat → Int32) (k i : Nat) : gset (gz g k i) k i 0 = gz g k (i + 1) := by
  funext a b
  by_cases h1 : a = k
  · by_cases h2 : b = i
    · simp [gset, gz, h1, h2]
    · by_cases h3 : b < i
      · simp [gset, gz, h1, h2, h3, show b < i + 1 by omega]
      · simp [gset, gz, h1, h2, h3, show ¬ b < i + 1 by omega]
  · simp [gset, gz, h1]
theorem gs_0 {g : Nat → Nat → Int32} {K i : Nat} {v : Int32} (h : ¬ 0 = K) : r0 (gset g K i v) = r0 g := by funext j; simp [r0, gset, h]
theorem gs_1 {g : Nat → Nat → Int32} {K i : Nat} {v : Int32} (h : ¬ 1 = K) : r1 (gset g K i v) = r1 g := by funext j; simp [r1, gset, h]
theorem gs_2 {g : Nat → Nat → Int32} {K i : Nat} {v : Int32} (h : ¬ 2 = K) : r2 (gset g K i v) = r2 g := by funext j; simp [r2, gset, h]
theorem gs_3 {g : Nat → Nat → Int32} {K i : Nat} {v : Int32} (h : ¬ 3 = K) : r3 (gset g K i v) = r3 g := by funext j; simp [r3, gset, h]
theorem gs_4 {g : Nat → Nat → Int32} {K i : Nat} {v : Int32} (h : ¬ 4 = K) : r4 (gset g K i v) = r4 g := by funext j; simp [r4, gset, h]
theorem gs_5 {g : Nat → Nat → Int32} {K i : Nat} {v : Int32} (h : ¬ 5 = K) : r5 (gset g K i v) = r5 g := by funext j; simp [r5, gset, h]
theorem gs_6 {g : Nat → Nat → Int32} {K i : Nat} {v : Int32} (h : ¬ 6 = K) : r6 (gset g K i v) = r6 g := by funext j; simp [r6, gset, h]
theorem gs_7 {g : Nat → Nat → Int32} {K i : Nat} {v : Int32} (h : ¬ 7 = K) : r7 (gset g K i v) = r7 g := by funext j; simp [r7, gset, h]
theorem gsu_0 {g : Nat → Nat → Int32} {i : Nat} {v : Int32} : upd (r0 g) i v = r0 (gset g 0 i v) := by
  funext j
  by_cases h : j = i <;> simp [r0, gset, upd, h]
theorem gsu_1 {g : Nat → Nat → Int32} {i : Nat} {v : Int32} : vp_updL (r1 g) i v.toInt64 = r1 (gset g 1 i v) := by
  funext j
  by_cases h : j = i <;> simp [r1, gset, vp_updL, h]
theorem gsu_2 {g : Nat → Nat → Int32} {i : Nat} {v : Int32} : upd (r2 g) i (vp_nar .short v.toInt16.toInt32) = r2 (gset g 2 i v) := by
  rw [pk_vs]; funext j
  by_cases h : j = i <;> simp [r2, gset, upd, h]
theorem gsu_3 {g : Nat → Nat → Int32} {i : Nat} {v : Int32} : upd (r3 g) i (vp_nar .byte v.toInt8.toInt32) = r3 (gset g 3 i v) := by
  rw [pk_vb]; funext j
  by_cases h : j = i <;> simp [r3, gset, upd, h]
theorem gsu_4 {g : Nat → Nat → Int32} {i : Nat} {v : Int32} : upd (r4 g) i (vp_nar .char (v.toUInt32 % 65536).toInt32) = r4 (gset g 4 i v) := by
  rw [pk_vc]; funext j
  by_cases h : j = i <;> simp [r4, gset, upd, h]
theorem gsu_6 {g : Nat → Nat → Int32} {i : Nat} {v : Int32} : vf_upd (r6 g) i (FP.i2f v) = r6 (gset g 6 i v) := by
  funext j
  by_cases h : j = i <;> simp [r6, gset, vf_upd, h]
theorem gsu_7 {g : Nat → Nat → Int32} {i : Nat} {v : Int32} : vf_upd (r7 g) i (FP.i2d v) = r7 (gset g 7 i v) := by
  funext j
  by_cases h : j = i <;> simp [r7, gset, vf_upd, h]
theorem gsu_5t {g : Nat → Nat → Int32} {i : Nat} {v : Int32} (hv : ¬ v = 0) : upd (r5 g) i (vp_nar .boolean 1) = r5 (gset g 5 i v) := by
  rw [show vp_nar .boolean 1 = 1 from rfl]
  funext j
  by_cases h : j = i <;> simp [r5, gset, upd, h, hv]
theorem gsu_5f {g : Nat → Nat → Int32} {i : Nat} {v : Int32} (hv : v = 0) : upd (r5 g) i (vp_nar .boolean 0) = r5 (gset g 5 i v) := by
  rw [show vp_nar .boolean 0 = 0 from rfl]
  funext j
  by_cases h : j = i <;> simp [r5, gset, upd, h, hv]
set_option maxHeartbeats 4000000 in
set_option maxRecDepth 100000 in
theorem c_store {l : Launch} {s0 : State} {a0 : Array Value} {dC : Nat → ClassId} {dI : Nat → Nat → Nat} {cA : Nat → ClassId} (h : xC l s0 a0 dC dI cA) (ro b0 b1 b2 b3 b4 b5 b6 b7 b8 : Nat) (g : Nat → Nat → Int32) (K : Nat) (x v : Int32) (sz : Nat) (hK8 : K < 8) (hi : vp_in x 39) : Met l yX4_store [Cond.code yX4_store cX4_store 4 none] ({ frames := 0, cells := 0, slots := 0, locals := 0 } : Room) (xPM s0 (dC, dI) [.ref ro, .int (nI K), .int x, .int v] [(ro, .inr (4, [.ref b0, .ref b1, .ref b2, .ref b3, .ref b4, .ref b5, .ref b6, .ref b7, .ref b8]))] [(b1, .inl (cA 0, 39, .inl (r0 g))), (b2, .inl (cA 1, 39, .inr (.inl (r1 g)))), (b3, .inl (cA 2, 39, .inl (r2 g))), (b4, .inl (cA 3, 39, .inl (r3 g))), (b5, .inl (cA 4, 39, .inl (r4 g))), (b6, .inl (cA 5, 39, .inl (r5 g))), (b7, .inl (cA 6, 39, .inr (.inr (.inl (r6 g))))), (b8, .inl (cA 7, 39, .inr (.inr (.inr (.inl (r7 g))))))] sz) (xQM (dC, dI) (va_A [(b1, .inl (cA 0, 39, .inl (r0 g))), (b2, .inl (cA 1, 39, .inr (.inl (r1 g)))), (b3, .inl (cA 2, 39, .inl (r2 g))), (b4, .inl (cA 3, 39, .inl (r3 g))), (b5, .inl (cA 4, 39, .inl (r4 g))), (b6, .inl (cA 5, 39, .inl (r5 g))), (b7, .inl (cA 6, 39, .inr (.inr (.inl (r6 g))))), (b8, .inl (cA 7, 39, .inr (.inr (.inr (.inl (r7 g))))))] sz) (fun r w1 => r = none ∧ w1 = [(b1, .inl (cA 0, 39, .inl (r0 (gset g K x.toNatClampNeg v)))), (b2, .inl (cA 1, 39, .inr (.inl (r1 (gset g K x.toNatClampNeg v))))), (b3, .inl (cA 2, 39, .inl (r2 (gset g K x.toNatClampNeg v)))), (b4, .inl (cA 3, 39, .inl (r3 (gset g K x.toNatClampNeg v)))), (b5, .inl (cA 4, 39, .inl (r4 (gset g K x.toNatClampNeg v)))), (b6, .inl (cA 5, 39, .inl (r5 (gset g K x.toNatClampNeg v)))), (b7, .inl (cA 6, 39, .inr (.inr (.inl (r6 (gset g K x.toNatClampNeg v)))))), (b8, .inl (cA 7, 39, .inr (.inr (.inr (.inl (r7 (gset g K x.toNatClampNeg v)))))))])) 0 0 (va_A [(b1, .inl (cA 0, 39, .inl (r0 g))), (b2, .inl (cA 1, 39, .inr (.inl (r1 g)))), (b3, .inl (cA 2, 39, .inl (r2 g))), (b4, .inl (cA 3, 39, .inl (r3 g))), (b5, .inl (cA 4, 39, .inl (r4 g))), (b6, .inl (cA 5, 39, .inl (r5 g))), (b7, .inl (cA 6, 39, .inr (.inr (.inl (r6 g))))), (b8, .inl (cA 7, 39, .inr (.inr (.inr (.inl (r7 g))))))] sz) := by
  refine Met.ofW (cc := cX4_store) (maxL := 4) (ret := none) (by decide) rfl ?_
  intro p e s m args below meth c s₁ B hml hv
  obtain ⟨rfl, rfl, hb0, hPr, hP, hD0⟩ := hv
  have hx := B.exec
  have hb := B.bytes
  have hr := B.returns
  have hown : s.vm.findClass RX4 = some m.cls := findClass_of_methodNamed B.named
  have hlocks := B.notSynchronized
  have hK := h.K hb0
  have hS : va_S (va_A [(b1, .inl (cA 0, 39, .inl (r0 g))), (b2, .inl (cA 1, 39, .inr (.inl (r1 g)))), (b3, .inl (cA 2, 39, .inl (r2 g))), (b4, .inl (cA 3, 39, .inl (r3 g))), (b5, .inl (cA 4, 39, .inl (r4 g))), (b6, .inl (cA 5, 39, .inl (r5 g))), (b7, .inl (cA 6, 39, .inr (.inr (.inl (r6 g))))), (b8, .inl (cA 7, 39, .inr (.inr (.inr (.inl (r7 g))))))] s.heap.size) s.heap s.heap [] := va_S.rf
  obtain ⟨A, hAe, hD, hA, hz, hRo, hwk, hnR⟩ := xM_start hb0 hPr hP hD0
  rw [hAe] at hS ⊢
  have hl := lv_entry ([.ref ro, .int (nI K), .int x, .int v]) (n := 4) (Nat.le_of_ble_eq_true rfl)
  rw [lg_entry_eq]
  generalize (lg_sl ([.ref ro, .int (nI K), .int x, .int v]) ++ List.replicate (4 - (lg_sl ([.ref ro, .int (nI K), .int x, .int v])).length) Slot.unset).toArray = ls at hl ⊢
  have hl : lv_has ls 4 [(0, .ref ro), (1, .int (nI K)), (2, .int x), (3, .int v)] := hl
  refine lv_iload_n hx hb dX4_store_0 rfl (lv_at hl 1 rfl) ?_
  have hk : K = 0 ∨ K = 1 ∨ K = 2 ∨ K = 3 ∨ K = 4 ∨ K = 5 ∨ K = 6 ∨ K = 7 := by omega
  rcases hk with rfl | rfl | rfl | rfl | rfl | rfl | rfl | rfl
  · refine lv_tableIn (off := 43) (tgt := 44) hx hb dX4_store_1 (by decide) (by decide) (by decide) (by decide) ?_
    refine lv_aload_n hx hb dX4_store_44 rfl (lv_at hl 0 rfl) ?_
    refine va_get (D := (dC, dI)) (ci := 4) (v := .ref b1) (C := RX4) (T := TX4) (N := 9) hx hb (ly_4 h hb0) (fun _ z => z) hown hK (hRo _ _ hS) 0 rfl rfl 1 (by decide) (k_33 h hb0) (fun _ z => z) rfl dX4_store_45 ?_
    refine lv_iload_n hx hb dX4_store_48 rfl (lv_at hl 2 rfl) ?_
    refine lv_iload_n hx hb dX4_store_49 rfl (lv_at hl 3 rfl) ?_
    refine va_iast hx hb hK hP hD hS 0 0 rfl rfl hi dX4_store_50 (fun H locs hP hD hS => ?_)
    have hP : va_P (dC, dI) vwCl [(b1, .inl (cA 0, 39, .inl (upd (r0 g) x.toNatClampNeg v))), (b2, .inl (cA 1, 39, .inr (.inl (r1 g)))), (b3, .inl (cA 2, 39, .inl (r2 g))), (b4, .inl (cA 3, 39, .inl (r3 g))), (b5, .inl (cA 4, 39, .inl (r4 g))), (b6, .inl (cA 5, 39, .inl (r5 g))), (b7, .inl (cA 6, 39, .inr (.inr (.inl (r6 g))))), (b8, .inl (cA 7, 39, .inr (.inr (.inr (.inl (r7 g))))))] H := hP
    have hD : va_D A [(b1, .inl (cA 0, 39, .inl (upd (r0 g) x.toNatClampNeg v))), (b2, .inl (cA 1, 39, .inr (.inl (r1 g)))), (b3, .inl (cA 2, 39, .inl (r2 g))), (b4, .inl (cA 3, 39, .inl (r3 g))), (b5, .inl (cA 4, 39, .inl (r4 g))), (b6, .inl (cA 5, 39, .inl (r5 g))), (b7, .inl (cA 6, 39, .inr (.inr (.inl (r6 g))))), (b8, .inl (cA 7, 39, .inr (.inr (.inr (.inl (r7 g))))))] := hD
    refine lv_goto (tgt := 135) hx hb dX4_store_51 (by decide) ?_
    exact W.vret hx hb hr (fun t ht _ => ⟨none, _, rfl, ⟨rfl, by rw [gsu_0, gs_1 (by decide), gs_2 (by decide), gs_3 (by decide), gs_4 (by decide), gs_5 (by decide), gs_6 (by decide), gs_7 (by decide)]⟩, by rw [ht]; exact hP, hD, hS.F ht⟩) (fun q z => hS.2.2 q z) dX4_store_135
  · refine lv_tableIn (off := 53) (tgt := 54) hx hb dX4_store_1 (by decide) (by decide) (by decide) (by decide) ?_
    refine lv_aload_n hx hb dX4_store_54 rfl (lv_at hl 0 rfl) ?_
    refine va_get (D := (dC, dI)) (ci := 4) (v := .ref b2) (C := RX4) (T := TX4) (N := 9) hx hb (ly_4 h hb0) (fun _ z => z) hown hK (hRo _ _ hS) 0 rfl rfl 2 (by decide) (k_34 h hb0) (fun _ z => z) rfl dX4_store_55 ?_
    refine lv_iload_n hx hb dX4_store_58 rfl (lv_at hl 2 rfl) ?_
    refine lv_iload_n hx hb dX4_store_59 rfl (lv_at hl 3 rfl) ?_
    refine lv_i2l hx hb dX4_store_60 rfl ?_
    refine va_last hx hb hK hP hD hS 1 1 rfl rfl hi dX4_store_61 (fun H locs hP hD hS => ?_)
    have hP : va_P (dC, dI) vwCl [(b1, .inl (cA 0, 39, .inl (r0 g))), (b2, .inl (cA 1, 39, .inr (.inl (vp_updL (r1 g) x.toNatClampNeg v.toInt64)))), (b3, .inl (cA 2, 39, .inl (r2 g))), (b4, .inl (cA 3, 39, .inl (r3 g))), (b5, .inl (cA 4, 39, .inl (r4 g))), (b6, .inl (cA 5, 39, .inl (r5 g))), (b7, .inl (cA 6, 39, .inr (.inr (.inl (r6 g))))), (b8, .inl (cA 7, 39, .inr (.inr (.inr (.inl (r7 g))))))] H := hP
    have hD : va_D A [(b1, .inl (cA 0, 39, .inl (r0 g))), (b2, .inl (cA 1, 39, .inr (.inl (vp_updL (r1 g) x.toNatClampNeg v.toInt64)))), (b3, .inl (cA 2, 39, .inl (r2 g))), (b4, .inl (cA 3, 39, .inl (r3 g))), (b5, .inl (cA 4, 39, .inl (r4 g))), (b6, .inl (cA 5, 39, .inl (r5 g))), (b7, .inl (cA 6, 39, .inr (.inr (.inl (r6 g))))), (b8, .inl (cA 7, 39, .inr (.inr (.inr (.inl (r7 g))))))] := hD
    refine lv_goto (tgt := 135) hx hb dX4_store_62 (by decide) ?_
    exact W.vret hx hb hr (fun t ht _ => ⟨none, _, rfl, ⟨rfl, by rw [gsu_1, gs_0 (by decide), gs_2 (by decide), gs_3 (by decide), gs_4 (by decide), gs_5 (by decide), gs_6 (by decide), gs_7 (by decide)]⟩, by rw [ht]; exact hP, hD, hS.F ht⟩) (fun q z => hS.2.2 q z) dX4_store_135
  · refine lv_tableIn (off := 64) (tgt := 65) hx hb dX4_store_1 (by decide) (by decide) (by decide) (by decide) ?_
    refine lv_aload_n hx hb dX4_store_65 rfl (lv_at hl 0 rfl) ?_
    refine va_get (D := (dC, dI)) (ci := 4) (v := .ref b3) (C := RX4) (T := TX4) (N := 9) hx hb (ly_4 h hb0) (fun _ z => z) hown hK (hRo _ _ hS) 0 rfl rfl 3 (by decide) (k_35 h hb0) (fun _ z => z) rfl dX4_store_66 ?_
    refine lv_iload_n hx hb dX4_store_69 rfl (lv_at hl 2 rfl) ?_
    refine lv_iload_n hx hb dX4_store_70 rfl (lv_at hl 3 rfl) ?_
    refine lv_i2s hx hb dX4_store_71 rfl ?_
    refine va_sast hx hb hK hP hD hS 2 2 rfl rfl hi dX4_store_72 (fun H locs hP hD hS => ?_)
    have hP : va_P (dC, dI) vwCl [(b1, .inl (cA 0, 39, .inl (r0 g))), (b2, .inl (cA 1, 39, .inr (.inl (r1 g)))), (b3, .inl (cA 2, 39, .inl (upd (r2 g) x.toNatClampNeg (vp_nar .short v.toInt16.toInt32)))), (b4, .inl (cA 3, 39, .inl (r3 g))), (b5, .inl (cA 4, 39, .inl (r4 g))), (b6, .inl (cA 5, 39, .inl (r5 g))), (b7, .inl (cA 6, 39, .inr (.inr (.inl (r6 g))))), (b8, .inl (cA 7, 39, .inr (.inr (.inr (.inl (r7 g))))))] H := hP
    have hD : va_D A [(b1, .inl (cA 0, 39, .inl (r0 g))), (b2, .inl (cA 1, 39, .inr (.inl (r1 g)))), (b3, .inl (cA 2, 39, .inl (upd (r2 g) x.toNatClampNeg (vp_nar .short v.toInt16.toInt32)))), (b4, .inl (cA 3, 39, .inl (r3 g))), (b5, .inl (cA 4, 39, .inl (r4 g))), (b6, .inl (cA 5, 39, .inl (r5 g))), (b7, .inl (cA 6, 39, .inr (.inr (.inl (r6 g))))), (b8, .inl (cA 7, 39, .inr (.inr (.inr (.inl (r7 g))))))] := hD
    refine lv_goto (tgt := 135) hx hb dX4_store_73 (by decide) ?_
    exact W.vret hx hb hr (fun t ht _ => ⟨none, _, rfl, ⟨rfl, by rw [gsu_2, gs_0 (by decide), gs_1 (by decide), gs_3 (by decide), gs_4 (by decide), gs_5 (by decide), gs_6 (by decide), gs_7 (by decide)]⟩, by rw [ht]; exact hP, hD, hS.F ht⟩) (fun q z => hS.2.2 q z) dX4_store_135
  · refine lv_tableIn (off := 75) (tgt := 76) hx hb dX4_store_1 (by decide) (by decide) (by decide) (by decide) ?_
    refine lv_aload_n hx hb dX4_store_76 rfl (lv_at hl 0 rfl) ?_
    refine va_get (D := (dC, dI)) (ci := 4) (v := .ref b4) (C := RX4) (T := TX4) (N := 9) hx hb (ly_4 h hb0) (fun _ z => z) hown hK (hRo _ _ hS) 0 rfl rfl 4 (by decide) (k_36 h hb0) (fun _ z => z) rfl dX4_store_77 ?_
    refine lv_iload_n hx hb dX4_store_80 rfl (lv_at hl 2 rfl) ?_
    refine lv_iload_n hx hb dX4_store_81 rfl (lv_at hl 3 rfl) ?_
    refine lv_i2b hx hb dX4_store_82 rfl ?_
    refine va_bast hx hb hK hP hD hS 3 3 rfl rfl hi dX4_store_83 (fun H locs hP hD hS => ?_)
    have hP : va_P (dC, dI) vwCl [(b1, .inl (cA 0, 39, .inl (r0 g))), (b2, .inl (cA 1, 39, .inr (.inl (r1 g)))), (b3, .inl (cA 2, 39, .inl (r2 g))), (b4, .inl (cA 3, 39, .inl (upd (r3 g) x.toNatClampNeg (vp_nar .byte v.toInt8.toInt32)))), (b5, .inl (cA 4, 39, .inl (r4 g))), (b6, .inl (cA 5, 39, .inl (r5 g))), (b7, .inl (cA 6, 39, .inr (.inr (.inl (r6 g))))), (b8, .inl (cA 7, 39, .inr (.inr (.inr (.inl (r7 g))))))] H := hP
    have hD : va_D A [(b1, .inl (cA 0, 39, .inl (r0 g))), (b2, .inl (cA 1, 39, .inr (.inl (r1 g)))), (b3, .inl (cA 2, 39, .inl (r2 g))), (b4, .inl (cA 3, 39, .inl (upd (r3 g) x.toNatClampNeg (vp_nar .byte v.toInt8.toInt32)))), (b5, .inl (cA 4, 39, .inl (r4 g))), (b6, .inl (cA 5, 39, .inl (r5 g))), (b7, .inl (cA 6, 39, .inr (.inr (.inl (r6 g))))), (b8, .inl (cA 7, 39, .inr (.inr (.inr (.inl (r7 g))))))] := hD
    refine lv_goto (tgt := 135) hx hb dX4_store_84 (by decide) ?_
    exact W.vret hx hb hr (fun t ht _ => ⟨none, _, rfl, ⟨rfl, by rw [gsu_3, gs_0 (by decide), gs_1 (by decide), gs_2 (by decide), gs_4 (by decide), gs_5 (by decide), gs_6 (by decide), gs_7 (by decide)]⟩, by rw [ht]; exact hP, hD, hS.F ht⟩) (fun q z => hS.2.2 q z) dX4_store_135
  · refine lv_tableIn (off := 86) (tgt := 87) hx hb dX4_store_1 (by decide) (by decide) (by decide) (by decide) ?_
    refine lv_aload_n hx hb dX4_store_87 rfl (lv_at hl 0 rfl) ?_
    refine va_get (D := (dC, dI)) (ci := 4) (v := .ref b5) (C := RX4) (T := TX4) (N := 9) hx hb (ly_4 h hb0) (fun _ z => z) hown hK (hRo _ _ hS) 0 rfl rfl 5 (by decide) (k_37 h hb0) (fun _ z => z) rfl dX4_store_88 ?_
    refine lv_iload_n hx hb dX4_store_91 rfl (lv_at hl 2 rfl) ?_
    refine lv_iload_n hx hb dX4_store_92 rfl (lv_at hl 3 rfl) ?_
    refine lv_i2c hx hb dX4_store_93 rfl ?_
    refine va_cast hx hb hK hP hD hS 4 4 rfl rfl hi dX4_store_94 (fun H locs hP hD hS => ?_)
    have hP : va_P (dC, dI) vwCl [(b1, .inl (cA 0, 39, .inl (r0 g))), (b2, .inl (cA 1, 39, .inr (.inl (r1 g)))), (b3, .inl (cA 2, 39, .inl (r2 g))), (b4, .inl (cA 3, 39, .inl (r3 g))), (b5, .inl (cA 4, 39, .inl (upd (r4 g) x.toNatClampNeg (vp_nar .char ((v.toUInt32 % 65536).toInt32))))), (b6, .inl (cA 5, 39, .inl (r5 g))), (b7, .inl (cA 6, 39, .inr (.inr (.inl (r6 g))))), (b8, .inl (cA 7, 39, .inr (.inr (.inr (.inl (r7 g))))))] H := hP
    have hD : va_D A [(b1, .inl (cA 0, 39, .inl (r0 g))), (b2, .inl (cA 1, 39, .inr (.inl (r1 g)))), (b3, .inl (cA 2, 39, .inl (r2 g))), (b4, .inl (cA 3, 39, .inl (r3 g))), (b5, .inl (cA 4, 39, .inl (upd (r4 g) x.toNatClampNeg (vp_nar .char ((v.toUInt32 % 65536).toInt32))))), (b6, .inl (cA 5, 39, .inl (r5 g))), (b7, .inl (cA 6, 39, .inr (.inr (.inl (r6 g))))), (b8, .inl (cA 7, 39, .inr (.inr (.inr (.inl (r7 g))))))] := hD
    refine lv_goto (tgt := 135) hx hb dX4_store_95 (by decide) ?_
    exact W.vret hx hb hr (fun t ht _ => ⟨none, _, rfl, ⟨rfl, by rw [gsu_4, gs_0 (by decide), gs_1 (by decide), gs_2 (by decide), gs_3 (by decide), gs_5 (by decide), gs_6 (by decide), gs_7 (by decide)]⟩, by rw [ht]; exact hP, hD, hS.F ht⟩) (fun q z => hS.2.2 q z) dX4_store_135
  · refine lv_tableIn (off := 97) (tgt := 98) hx hb dX4_store_1 (by decide) (by decide) (by decide) (by decide) ?_
    refine lv_aload_n hx hb dX4_store_98 rfl (lv_at hl 0 rfl) ?_
    refine va_get (D := (dC, dI)) (ci := 4) (v := .ref b6) (C := RX4) (T := TX4) (N := 9) hx hb (ly_4 h hb0) (fun _ z => z) hown hK (hRo _ _ hS) 0 rfl rfl 6 (by decide) (k_38 h hb0) (fun _ z => z) rfl dX4_store_99 ?_
    refine lv_iload_n hx hb dX4_store_102 rfl (lv_at hl 2 rfl) ?_
    refine lv_iload_n hx hb dX4_store_103 rfl (lv_at hl 3 rfl) ?_
    refine lv_if_eq (tgt := 111) hx hb dX4_store_104 (by decide) (fun c_1 => ?_) (fun c_1 => ?_)
    · refine lv_iconst (v := 0) hx hb dX4_store_111 (by decide) ?_
      refine va_zast hx hb hK hP hD hS 5 5 rfl rfl hi dX4_store_112 (fun H locs hP hD hS => ?_)
      have hP : va_P (dC, dI) vwCl [(b1, .inl (cA 0, 39, .inl (r0 g))), (b2, .inl (cA 1, 39, .inr (.inl (r1 g)))), (b3, .inl (cA 2, 39, .inl (r2 g))), (b4, .inl (cA 3, 39, .inl (r3 g))), (b5, .inl (cA 4, 39, .inl (r4 g))), (b6, .inl (cA 5, 39, .inl (upd (r5 g) x.toNatClampNeg (vp_nar .boolean 0)))), (b7, .inl (cA 6, 39, .inr (.inr (.inl (r6 g))))), (b8, .inl (cA 7, 39, .inr (.inr (.inr (.inl (r7 g))))))] H := hP
      have hD : va_D A [(b1, .inl (cA 0, 39, .inl (r0 g))), (b2, .inl (cA 1, 39, .inr (.inl (r1 g)))), (b3, .inl (cA 2, 39, .inl (r2 g))), (b4, .inl (cA 3, 39, .inl (r3 g))), (b5, .inl (cA 4, 39, .inl (r4 g))), (b6, .inl (cA 5, 39, .inl (upd (r5 g) x.toNatClampNeg (vp_nar .boolean 0)))), (b7, .inl (cA 6, 39, .inr (.inr (.inl (r6 g))))), (b8, .inl (cA 7, 39, .inr (.inr (.inr (.inl (r7 g))))))] := hD
      refine lv_goto (tgt := 135) hx hb dX4_store_113 (by decide) ?_
      exact W.vret hx hb hr (fun t ht _ => ⟨none, _, rfl, ⟨rfl, by rw [gsu_5f c_1, gs_0 (by decide), gs_1 (by decide), gs_2 (by decide), gs_3 (by decide), gs_4 (by decide), gs_6 (by decide), gs_7 (by decide)]⟩, by rw [ht]; exact hP, hD, hS.F ht⟩) (fun q z => hS.2.2 q z) dX4_store_135
    · refine lv_iconst (v := 1) hx hb dX4_store_107 (by decide) ?_
      refine lv_goto (tgt := 112) hx hb dX4_store_108 (by decide) ?_
      refine va_zast hx hb hK hP hD hS 5 5 rfl rfl hi dX4_store_112 (fun H locs hP hD hS => ?_)
      have hP : va_P (dC, dI) vwCl [(b1, .inl (cA 0, 39, .inl (r0 g))), (b2, .inl (cA 1, 39, .inr (.inl (r1 g)))), (b3, .inl (cA 2, 39, .inl (r2 g))), (b4, .inl (cA 3, 39, .inl (r3 g))), (b5, .inl (cA 4, 39, .inl (r4 g))), (b6, .inl (cA 5, 39, .inl (upd (r5 g) x.toNatClampNeg (vp_nar .boolean 1)))), (b7, .inl (cA 6, 39, .inr (.inr (.inl (r6 g))))), (b8, .inl (cA 7, 39, .inr (.inr (.inr (.inl (r7 g))))))] H := hP
      have hD : va_D A [(b1, .inl (cA 0, 39, .inl (r0 g))), (b2, .inl (cA 1, 39, .inr (.inl (r1 g)))), (b3, .inl (cA 2, 39, .inl (r2 g))), (b4, .inl (cA 3, 39, .inl (r3 g))), (b5, .inl (cA 4, 39, .inl (r4 g))), (b6, .inl (cA 5, 39, .inl (upd (r5 g) x.toNatClampNeg (vp_nar .boolean 1)))), (b7, .inl (cA 6, 39, .inr (.inr (.inl (r6 g))))), (b8, .inl (cA 7, 39, .inr (.inr (.inr (.inl (r7 g))))))] := hD
      refine lv_goto (tgt := 135) hx hb dX4_store_113 (by decide) ?_
      exact W.vret hx hb hr (fun t ht _ => ⟨none, _, rfl, ⟨rfl, by rw [gsu_5t c_1, gs_0 (by decide), gs_1 (by decide), gs_2 (by decide), gs_3 (by decide), gs_4 (by decide), gs_6 (by decide), gs_7 (by decide)]⟩, by rw [ht]; exact hP, hD, hS.F ht⟩) (fun q z => hS.2.2 q z) dX4_store_135
  · refine lv_tableIn (off := 115) (tgt := 116) hx hb dX4_store_1 (by decide) (by decide) (by decide) (by decide) ?_
    refine lv_aload_n hx hb dX4_store_116 rfl (lv_at hl 0 rfl) ?_
    refine va_get (D := (dC, dI)) (ci := 4) (v := .ref b7) (C := RX4) (T := TX4) (N := 9) hx hb (ly_4 h hb0) (fun _ z => z) hown hK (hRo _ _ hS) 0 rfl rfl 7 (by decide) (k_39 h hb0) (fun _ z => z) rfl dX4_store_117 ?_
    refine lv_iload_n hx hb dX4_store_120 rfl (lv_at hl 2 rfl) ?_
    refine lv_iload_n hx hb dX4_store_121 rfl (lv_at hl 3 rfl) ?_
    refine lv_i2f hx hb dX4_store_122 ?_
    refine va_fast hx hb hK hP hD hS 6 6 rfl rfl hi dX4_store_123 (fun H locs hP hD hS => ?_)
    have hP : va_P (dC, dI) vwCl [(b1, .inl (cA 0, 39, .inl (r0 g))), (b2, .inl (cA 1, 39, .inr (.inl (r1 g)))), (b3, .inl (cA 2, 39, .inl (r2 g))), (b4, .inl (cA 3, 39, .inl (r3 g))), (b5, .inl (cA 4, 39, .inl (r4 g))), (b6, .inl (cA 5, 39, .inl (r5 g))), (b7, .inl (cA 6, 39, .inr (.inr (.inl (vf_upd (r6 g) x.toNatClampNeg (FP.i2f v)))))), (b8, .inl (cA 7, 39, .inr (.inr (.inr (.inl (r7 g))))))] H := hP
    have hD : va_D A [(b1, .inl (cA 0, 39, .inl (r0 g))), (b2, .inl (cA 1, 39, .inr (.inl (r1 g)))), (b3, .inl (cA 2, 39, .inl (r2 g))), (b4, .inl (cA 3, 39, .inl (r3 g))), (b5, .inl (cA 4, 39, .inl (r4 g))), (b6, .inl (cA 5, 39, .inl (r5 g))), (b7, .inl (cA 6, 39, .inr (.inr (.inl (vf_upd (r6 g) x.toNatClampNeg (FP.i2f v)))))), (b8, .inl (cA 7, 39, .inr (.inr (.inr (.inl (r7 g))))))] := hD
    refine lv_goto (tgt := 135) hx hb dX4_store_124 (by decide) ?_
    exact W.vret hx hb hr (fun t ht _ => ⟨none, _, rfl, ⟨rfl, by rw [gsu_6, gs_0 (by decide), gs_1 (by decide), gs_2 (by decide), gs_3 (by decide), gs_4 (by decide), gs_5 (by decide), gs_7 (by decide)]⟩, by rw [ht]; exact hP, hD, hS.F ht⟩) (fun q z => hS.2.2 q z) dX4_store_135
  · refine lv_tableOut (tgt := 127) hx hb dX4_store_1 (by decide) (by decide) ?_
    refine lv_aload_n hx hb dX4_store_127 rfl (lv_at hl 0 rfl) ?_
    refine va_get (D := (dC, dI)) (ci := 4) (v := .ref b8) (C := RX4) (T := TX4) (N := 9) hx hb (ly_4 h hb0) (fun _ z => z) hown hK (hRo _ _ hS) 0 rfl rfl 8 (by decide) (k_40 h hb0) (fun _ z => z) rfl dX4_store_128 ?_
    refine lv_iload_n hx hb dX4_store_131 rfl (lv_at hl 2 rfl) ?_
    refine lv_iload_n hx hb dX4_store_132 rfl (lv_at hl 3 rfl) ?_
    refine lv_i2d hx hb dX4_store_133 ?_
    refine va_dast hx hb hK hP hD hS 7 7 rfl rfl hi dX4_store_134 (fun H locs hP hD hS => ?_)
    have hP : va_P (dC, dI) vwCl [(b1, .inl (cA 0, 39, .inl (r0 g))), (b2, .inl (cA 1, 39, .inr (.inl (r1 g)))), (b3, .inl (cA 2, 39, .inl (r2 g))), (b4, .inl (cA 3, 39, .inl (r3 g))), (b5, .inl (cA 4, 39, .inl (r4 g))), (b6, .inl (cA 5, 39, .inl (r5 g))), (b7, .inl (cA 6, 39, .inr (.inr (.inl (r6 g))))), (b8, .inl (cA 7, 39, .inr (.inr (.inr (.inl (vf_upd (r7 g) x.toNatClampNeg (FP.i2d v)))))))] H := hP
    have hD : va_D A [(b1, .inl (cA 0, 39, .inl (r0 g))), (b2, .inl (cA 1, 39, .inr (.inl (r1 g)))), (b3, .inl (cA 2, 39, .inl (r2 g))), (b4, .inl (cA 3, 39, .inl (r3 g))), (b5, .inl (cA 4, 39, .inl (r4 g))), (b6, .inl (cA 5, 39, .inl (r5 g))), (b7, .inl (cA 6, 39, .inr (.inr (.inl (r6 g))))), (b8, .inl (cA 7, 39, .inr (.inr (.inr (.inl (vf_upd (r7 g) x.toNatClampNeg (FP.i2d v)))))))] := hD
    exact W.vret hx hb hr (fun t ht _ => ⟨none, _, rfl, ⟨rfl, by rw [gsu_7, gs_0 (by decide), gs_1 (by decide), gs_2 (by decide), gs_3 (by decide), gs_4 (by decide), gs_5 (by decide), gs_6 (by decide)]⟩, by rw [ht]; exact hP, hD, hS.F ht⟩) (fun q z => hS.2.2 q z) dX4_store_135
set_option maxHeartbeats 4000000 in
set_option maxRecDepth 100000 in
theorem c_renew {l : Launch} {s0 : State} {a0 : Array Value} {dC : Nat → ClassId} {dI : Nat → Nat → Nat} {cA : Nat → ClassId} (h : xC l s0 a0 dC dI cA) (ro b0 b1 b2 b3 b4 b5 b6 b7 b8 : Nat) (n : Nat → Int32) (g : Nat → Nat → Int32) (K N : Nat) (sz : Nat) (hK8 : K < 8) (hN : N < 40) : Met l yX4_renew [Cond.code yX4_renew cX4_renew 4 none] ({ frames := 1, cells := 0, slots := 0, locals := 30 } : Room) (xPM s0 (dC, dI) [.ref ro, .int (nI K), .int (nI N)] [(ro, .inr (4, [.ref b0, .ref b1, .ref b2, .ref b3, .ref b4, .ref b5, .ref b6, .ref b7, .ref b8]))] [(b0, .inl (cA 0, 8, .inl n)), (b1, .inl (cA 0, 39, .inl (r0 g))), (b2, .inl (cA 1, 39, .inr (.inl (r1 g)))), (b3, .inl (cA 2, 39, .inl (r2 g))), (b4, .inl (cA 3, 39, .inl (r3 g))), (b5, .inl (cA 4, 39, .inl (r4 g))), (b6, .inl (cA 5, 39, .inl (r5 g))), (b7, .inl (cA 6, 39, .inr (.inr (.inl (r6 g))))), (b8, .inl (cA 7, 39, .inr (.inr (.inr (.inl (r7 g))))))] sz) (xQM (dC, dI) (va_A [(b0, .inl (cA 0, 8, .inl n)), (b1, .inl (cA 0, 39, .inl (r0 g))), (b2, .inl (cA 1, 39, .inr (.inl (r1 g)))), (b3, .inl (cA 2, 39, .inl (r2 g))), (b4, .inl (cA 3, 39, .inl (r3 g))), (b5, .inl (cA 4, 39, .inl (r4 g))), (b6, .inl (cA 5, 39, .inl (r5 g))), (b7, .inl (cA 6, 39, .inr (.inr (.inl (r6 g))))), (b8, .inl (cA 7, 39, .inr (.inr (.inr (.inl (r7 g))))))] sz) (fun r w1 => r = none ∧ w1 = [(b0, .inl (cA 0, 8, .inl (upd n K (nI N)))), (b1, .inl (cA 0, 39, .inl (r0 (gz g K N)))), (b2, .inl (cA 1, 39, .inr (.inl (r1 (gz g K N))))), (b3, .inl (cA 2, 39, .inl (r2 (gz g K N)))), (b4, .inl (cA 3, 39, .inl (r3 (gz g K N)))), (b5, .inl (cA 4, 39, .inl (r4 (gz g K N)))), (b6, .inl (cA 5, 39, .inl (r5 (gz g K N)))), (b7, .inl (cA 6, 39, .inr (.inr (.inl (r6 (gz g K N)))))), (b8, .inl (cA 7, 39, .inr (.inr (.inr (.inl (r7 (gz g K N)))))))])) 0 0 (va_A [(b0, .inl (cA 0, 8, .inl n)), (b1, .inl (cA 0, 39, .inl (r0 g))), (b2, .inl (cA 1, 39, .inr (.inl (r1 g)))), (b3, .inl (cA 2, 39, .inl (r2 g))), (b4, .inl (cA 3, 39, .inl (r3 g))), (b5, .inl (cA 4, 39, .inl (r4 g))), (b6, .inl (cA 5, 39, .inl (r5 g))), (b7, .inl (cA 6, 39, .inr (.inr (.inl (r6 g))))), (b8, .inl (cA 7, 39, .inr (.inr (.inr (.inl (r7 g))))))] sz) := by
  refine Met.ofW (cc := cX4_renew) (maxL := 4) (ret := none) (by decide) rfl ?_
  intro p e s m args below meth c s₁ B hml hv
  obtain ⟨rfl, rfl, hb0, hPr, hP, hD0⟩ := hv
  have hx := B.exec
  have hb := B.bytes
  have hr := B.returns
  have hown : s.vm.findClass RX4 = some m.cls := findClass_of_methodNamed B.named
  have hlocks := B.notSynchronized
  have hK := h.K hb0
  have hS : va_S (va_A [(b0, .inl (cA 0, 8, .inl n)), (b1, .inl (cA 0, 39, .inl (r0 g))), (b2, .inl (cA 1, 39, .inr (.inl (r1 g)))), (b3, .inl (cA 2, 39, .inl (r2 g))), (b4, .inl (cA 3, 39, .inl (r3 g))), (b5, .inl (cA 4, 39, .inl (r4 g))), (b6, .inl (cA 5, 39, .inl (r5 g))), (b7, .inl (cA 6, 39, .inr (.inr (.inl (r6 g))))), (b8, .inl (cA 7, 39, .inr (.inr (.inr (.inl (r7 g))))))] s.heap.size) s.heap s.heap [] := va_S.rf
  obtain ⟨A, hAe, hD, hA, hz, hRo, hwk, hnR⟩ := xM_start hb0 hPr hP hD0
  rw [hAe] at hS ⊢
  have hl := lv_entry ([.ref ro, .int (nI K), .int (nI N)]) (n := 4) (Nat.le_of_ble_eq_true rfl)
  rw [lg_entry_eq]
  generalize (lg_sl ([.ref ro, .int (nI K), .int (nI N)]) ++ List.replicate (4 - (lg_sl ([.ref ro, .int (nI K), .int (nI N)])).length) Slot.unset).toArray = ls at hl ⊢
  have hl : lv_has ls 4 [(0, .ref ro), (1, .int (nI K)), (2, .int (nI N))] := hl
  refine lv_iconst (v := 0) hx hb dX4_renew_0 (by decide) ?_
  refine lv_istore_n (lv' := [(3, .int 0), (0, .ref ro), (1, .int (nI K)), (2, .int (nI N))]) hx hb dX4_renew_1 rfl hl (by decide) rfl (fun ls hl => ?_)
  refine xloop (σ := Array Slot × Heap × List Loc) (fun i z => lv_has z.1 4 [(3, .int (nI i)), (0, .ref ro), (1, .int (nI K)), (2, .int (nI N))] ∧ va_P (dC, dI) vwCl [(b0, .inl (cA 0, 8, .inl n)), (b1, .inl (cA 0, 39, .inl (r0 (gz g K i)))), (b2, .inl (cA 1, 39, .inr (.inl (r1 (gz g K i))))), (b3, .inl (cA 2, 39, .inl (r2 (gz g K i)))), (b4, .inl (cA 3, 39, .inl (r3 (gz g K i)))), (b5, .inl (cA 4, 39, .inl (r4 (gz g K i)))), (b6, .inl (cA 5, 39, .inl (r5 (gz g K i)))), (b7, .inl (cA 6, 39, .inr (.inr (.inl (r6 (gz g K i)))))), (b8, .inl (cA 7, 39, .inr (.inr (.inr (.inl (r7 (gz g K i)))))))] z.2.1 ∧ va_D A [(b0, .inl (cA 0, 8, .inl n)), (b1, .inl (cA 0, 39, .inl (r0 (gz g K i)))), (b2, .inl (cA 1, 39, .inr (.inl (r1 (gz g K i))))), (b3, .inl (cA 2, 39, .inl (r2 (gz g K i)))), (b4, .inl (cA 3, 39, .inl (r3 (gz g K i)))), (b5, .inl (cA 4, 39, .inl (r4 (gz g K i)))), (b6, .inl (cA 5, 39, .inl (r5 (gz g K i)))), (b7, .inl (cA 6, 39, .inr (.inr (.inl (r6 (gz g K i)))))), (b8, .inl (cA 7, 39, .inr (.inr (.inr (.inl (r7 (gz g K i)))))))] ∧ va_S A s.heap z.2.1 z.2.2) (fun z => W p l e _ s m _ below meth c z.2.1 z.2.2 _ _ _ (F0 m 2 z.1 [])) N ?_ ?_ (ls, _, _) ⟨hl, by rw [gz_0]; exact hP, by rw [gz_0]; exact hD, hS⟩
  · rintro i ⟨ls, H, locs⟩ hi ⟨hl, hP, hD, hS⟩ ih
    have hl : lv_has ls 4 [(3, .int (nI i)), (0, .ref ro), (1, .int (nI K)), (2, .int (nI N))] := hl
    have hP : va_P (dC, dI) vwCl [(b0, .inl (cA 0, 8, .inl n)), (b1, .inl (cA 0, 39, .inl (r0 (gz g K i)))), (b2, .inl (cA 1, 39, .inr (.inl (r1 (gz g K i))))), (b3, .inl (cA 2, 39, .inl (r2 (gz g K i)))), (b4, .inl (cA 3, 39, .inl (r3 (gz g K i)))), (b5, .inl (cA 4, 39, .inl (r4 (gz g K i)))), (b6, .inl (cA 5, 39, .inl (r5 (gz g K i)))), (b7, .inl (cA 6, 39, .inr (.inr (.inl (r6 (gz g K i)))))), (b8, .inl (cA 7, 39, .inr (.inr (.inr (.inl (r7 (gz g K i)))))))] H := hP
    have hD : va_D A [(b0, .inl (cA 0, 8, .inl n)), (b1, .inl (cA 0, 39, .inl (r0 (gz g K i)))), (b2, .inl (cA 1, 39, .inr (.inl (r1 (gz g K i))))), (b3, .inl (cA 2, 39, .inl (r2 (gz g K i)))), (b4, .inl (cA 3, 39, .inl (r3 (gz g K i)))), (b5, .inl (cA 4, 39, .inl (r4 (gz g K i)))), (b6, .inl (cA 5, 39, .inl (r5 (gz g K i)))), (b7, .inl (cA 6, 39, .inr (.inr (.inl (r6 (gz g K i)))))), (b8, .inl (cA 7, 39, .inr (.inr (.inr (.inl (r7 (gz g K i)))))))] := hD
    have hS : va_S A s.heap H locs := hS
    show W p l e _ s m _ below meth c H locs _ _ _ (F0 m 2 ls [])
    refine lv_iload_n hx hb dX4_renew_2 rfl (lv_at hl 0 rfl) ?_
    refine lv_iload_n hx hb dX4_renew_3 rfl (lv_at hl 3 rfl) ?_
    refine lv_icmp_ge (tgt := 20) hx hb dX4_renew_4 (by decide) (fun c_1 => ?_) (fun c_1 => ?_)
    · exact absurd c_1 (nI_ge hi (by omega))
    · refine lv_aload_n hx hb dX4_renew_7 rfl (lv_at hl 1 rfl) ?_
      refine lv_iload_n hx hb dX4_renew_8 rfl (lv_at hl 2 rfl) ?_
      refine lv_iload_n hx hb dX4_renew_9 rfl (lv_at hl 0 rfl) ?_
      refine lv_iconst (v := 0) hx hb dX4_renew_10 (by decide) ?_
      refine xm_of (wc := [(b1, .inl (cA 0, 39, .inl (r0 (gz g K i)))), (b2, .inl (cA 1, 39, .inr (.inl (r1 (gz g K i))))), (b3, .inl (cA 2, 39, .inl (r2 (gz g K i)))), (b4, .inl (cA 3, 39, .inl (r3 (gz g K i)))), (b5, .inl (cA 4, 39, .inl (r4 (gz g K i)))), (b6, .inl (cA 5, 39, .inl (r5 (gz g K i)))), (b7, .inl (cA 6, 39, .inr (.inr (.inl (r6 (gz g K i)))))), (b8, .inl (cA 7, 39, .inr (.inr (.inr (.inl (r7 (gz g K i)))))))]) (wo := [(b0, .inl (cA 0, 8, .inl n))]) (va_runV (As := [.int (nI K), .int (nI i), .int 0]) (rest := []) ⟨hx, hb, hml, hown, xTs⟩ (c_store h ro b0 b1 b2 b3 b4 b5 b6 b7 b8 (gz g K i) K (nI i) 0 _ hK8 (vp_in_nI (by omega) (by decide))) ⟨xB (n := 3) (k_268 h hb0) (k_2 h hb0) (k_307 h hb0) (by decide) rfl rfl rfl (by decide) (by decide), (k_266 h hb0), (k_267 h hb0)⟩ (xpMV (wr := [(ro, .inr (4, [.ref b0, .ref b1, .ref b2, .ref b3, .ref b4, .ref b5, .ref b6, .ref b7, .ref b8]))]) (wc := [(b1, .inl (cA 0, 39, .inl (r0 (gz g K i)))), (b2, .inl (cA 1, 39, .inr (.inl (r1 (gz g K i))))), (b3, .inl (cA 2, 39, .inl (r2 (gz g K i)))), (b4, .inl (cA 3, 39, .inl (r3 (gz g K i)))), (b5, .inl (cA 4, 39, .inl (r4 (gz g K i)))), (b6, .inl (cA 5, 39, .inl (r5 (gz g K i)))), (b7, .inl (cA 6, 39, .inr (.inr (.inl (r6 (gz g K i)))))), (b8, .inl (cA 7, 39, .inr (.inr (.inr (.inl (r7 (gz g K i)))))))]) hb0 hS hz (va_P.sub (hRo _ _ hS) [0] rfl) (va_P.sub hP [1, 2, 3, 4, 5, 6, 7, 8] rfl) (va_D.sub (xDD (xDl hD0) hD hz hnR) [0, 2, 3, 4, 5, 6, 7, 8, 9] rfl rfl) (va_recv hK (hRo _ _ hS) (ci := 4) (q0 := 0) rfl rfl)) rfl rfl hl.1 rfl (lv_room (Nat.le_of_ble_eq_true rfl)) dX4_renew_11 ⟨(Nat.le_of_ble_eq_true rfl), (Nat.le_of_ble_eq_true rfl)⟩) hP hD hS hA [1, 2, 3, 4, 5, 6, 7, 8] [0] rfl rfl rfl (by decide) (fun r w1 H locs hΦ hP hD hS => ?_)
      obtain ⟨rfl, rfl⟩ := hΦ
      have hP : va_P (dC, dI) vwCl [(b0, .inl (cA 0, 8, .inl n)), (b1, .inl (cA 0, 39, .inl (r0 (gset (gz g K i) K (nI i).toNatClampNeg 0)))), (b2, .inl (cA 1, 39, .inr (.inl (r1 (gset (gz g K i) K (nI i).toNatClampNeg 0))))), (b3, .inl (cA 2, 39, .inl (r2 (gset (gz g K i) K (nI i).toNatClampNeg 0)))), (b4, .inl (cA 3, 39, .inl (r3 (gset (gz g K i) K (nI i).toNatClampNeg 0)))), (b5, .inl (cA 4, 39, .inl (r4 (gset (gz g K i) K (nI i).toNatClampNeg 0)))), (b6, .inl (cA 5, 39, .inl (r5 (gset (gz g K i) K (nI i).toNatClampNeg 0)))), (b7, .inl (cA 6, 39, .inr (.inr (.inl (r6 (gset (gz g K i) K (nI i).toNatClampNeg 0)))))), (b8, .inl (cA 7, 39, .inr (.inr (.inr (.inl (r7 (gset (gz g K i) K (nI i).toNatClampNeg 0)))))))] H := hP
      have hD : va_D A [(b0, .inl (cA 0, 8, .inl n)), (b1, .inl (cA 0, 39, .inl (r0 (gset (gz g K i) K (nI i).toNatClampNeg 0)))), (b2, .inl (cA 1, 39, .inr (.inl (r1 (gset (gz g K i) K (nI i).toNatClampNeg 0))))), (b3, .inl (cA 2, 39, .inl (r2 (gset (gz g K i) K (nI i).toNatClampNeg 0)))), (b4, .inl (cA 3, 39, .inl (r3 (gset (gz g K i) K (nI i).toNatClampNeg 0)))), (b5, .inl (cA 4, 39, .inl (r4 (gset (gz g K i) K (nI i).toNatClampNeg 0)))), (b6, .inl (cA 5, 39, .inl (r5 (gset (gz g K i) K (nI i).toNatClampNeg 0)))), (b7, .inl (cA 6, 39, .inr (.inr (.inl (r6 (gset (gz g K i) K (nI i).toNatClampNeg 0)))))), (b8, .inl (cA 7, 39, .inr (.inr (.inr (.inl (r7 (gset (gz g K i) K (nI i).toNatClampNeg 0)))))))] := hD
      refine lv_iinc (lv' := [(3, .int (nI (i + 1))), (0, .ref ro), (1, .int (nI K)), (2, .int (nI N))]) hx hb dX4_renew_14 hl (k := 0) rfl (nI_1 _) (by decide) rfl (fun ls hl => ?_)
      refine lv_goto (tgt := 2) hx hb dX4_renew_17 (by decide) ?_
      rw [nI_clamp (by omega), gz_s] at hP hD
      exact ih (ls, _, _) ⟨hl, hP, hD, hS⟩
  · rintro ⟨ls, H, locs⟩ ⟨hl, hP, hD, hS⟩
    have hl : lv_has ls 4 [(3, .int (nI N)), (0, .ref ro), (1, .int (nI K)), (2, .int (nI N))] := hl
    have hP : va_P (dC, dI) vwCl [(b0, .inl (cA 0, 8, .inl n)), (b1, .inl (cA 0, 39, .inl (r0 (gz g K N)))), (b2, .inl (cA 1, 39, .inr (.inl (r1 (gz g K N))))), (b3, .inl (cA 2, 39, .inl (r2 (gz g K N)))), (b4, .inl (cA 3, 39, .inl (r3 (gz g K N)))), (b5, .inl (cA 4, 39, .inl (r4 (gz g K N)))), (b6, .inl (cA 5, 39, .inl (r5 (gz g K N)))), (b7, .inl (cA 6, 39, .inr (.inr (.inl (r6 (gz g K N)))))), (b8, .inl (cA 7, 39, .inr (.inr (.inr (.inl (r7 (gz g K N)))))))] H := hP
    have hD : va_D A [(b0, .inl (cA 0, 8, .inl n)), (b1, .inl (cA 0, 39, .inl (r0 (gz g K N)))), (b2, .inl (cA 1, 39, .inr (.inl (r1 (gz g K N))))), (b3, .inl (cA 2, 39, .inl (r2 (gz g K N)))), (b4, .inl (cA 3, 39, .inl (r3 (gz g K N)))), (b5, .inl (cA 4, 39, .inl (r4 (gz g K N)))), (b6, .inl (cA 5, 39, .inl (r5 (gz g K N)))), (b7, .inl (cA 6, 39, .inr (.inr (.inl (r6 (gz g K N)))))), (b8, .inl (cA 7, 39, .inr (.inr (.inr (.inl (r7 (gz g K N)))))))] := hD
    have hS : va_S A s.heap H locs := hS
    show W p l e _ s m _ below meth c H locs _ _ _ (F0 m 2 ls [])
    refine lv_iload_n hx hb dX4_renew_2 rfl (lv_at hl 0 rfl) ?_
    refine lv_iload_n hx hb dX4_renew_3 rfl (lv_at hl 3 rfl) ?_
    refine lv_icmp_ge (tgt := 20) hx hb dX4_renew_4 (by decide) (fun c_2 => ?_) (fun c_2 => ?_)
    · refine lv_aload_n hx hb dX4_renew_20 rfl (lv_at hl 1 rfl) ?_
      refine va_get (D := (dC, dI)) (ci := 4) (v := .ref b0) (C := RX4) (T := TX4) (N := 9) hx hb (ly_4 h hb0) (fun _ z => z) hown hK (hRo _ _ hS) 0 rfl rfl 0 (by decide) (k_32 h hb0) (fun _ z => z) rfl dX4_renew_21 ?_
      refine lv_iload_n hx hb dX4_renew_24 rfl (lv_at hl 2 rfl) ?_
      refine lv_iload_n hx hb dX4_renew_25 rfl (lv_at hl 3 rfl) ?_
      refine va_iast hx hb hK hP hD hS 0 0 rfl rfl (vp_in_nI hK8 (by decide)) dX4_renew_26 (fun H locs hP hD hS => ?_)
      have hP : va_P (dC, dI) vwCl [(b0, .inl (cA 0, 8, .inl (upd n (nI K).toNatClampNeg (nI N)))), (b1, .inl (cA 0, 39, .inl (r0 (gz g K N)))), (b2, .inl (cA 1, 39, .inr (.inl (r1 (gz g K N))))), (b3, .inl (cA 2, 39, .inl (r2 (gz g K N)))), (b4, .inl (cA 3, 39, .inl (r3 (gz g K N)))), (b5, .inl (cA 4, 39, .inl (r4 (gz g K N)))), (b6, .inl (cA 5, 39, .inl (r5 (gz g K N)))), (b7, .inl (cA 6, 39, .inr (.inr (.inl (r6 (gz g K N)))))), (b8, .inl (cA 7, 39, .inr (.inr (.inr (.inl (r7 (gz g K N)))))))] H := hP
      have hD : va_D A [(b0, .inl (cA 0, 8, .inl (upd n (nI K).toNatClampNeg (nI N)))), (b1, .inl (cA 0, 39, .inl (r0 (gz g K N)))), (b2, .inl (cA 1, 39, .inr (.inl (r1 (gz g K N))))), (b3, .inl (cA 2, 39, .inl (r2 (gz g K N)))), (b4, .inl (cA 3, 39, .inl (r3 (gz g K N)))), (b5, .inl (cA 4, 39, .inl (r4 (gz g K N)))), (b6, .inl (cA 5, 39, .inl (r5 (gz g K N)))), (b7, .inl (cA 6, 39, .inr (.inr (.inl (r6 (gz g K N)))))), (b8, .inl (cA 7, 39, .inr (.inr (.inr (.inl (r7 (gz g K N)))))))] := hD
      exact W.vret hx hb hr (fun t ht _ => ⟨none, _, rfl, ⟨rfl, by rw [nI_clamp (by omega)]⟩, by rw [ht]; exact hP, hD, hS.F ht⟩) (fun q z => hS.2.2 q z) dX4_renew_27
    · exact absurd (nI_le (Nat.le_refl N) (by omega)) c_2
set_option maxHeartbeats 4000000 in
set_option maxRecDepth 100000 in
theorem c_grenew {l : Launch} {s0 : State} {a0 : Array Value} {dC : Nat → ClassId} {dI : Nat → Nat → Nat} {cA : Nat → ClassId} (h : xC l s0 a0 dC dI cA) (gr gc : Nat) (z1 z2 z3 x y : Int32) (sz : Nat)  : Met l yX3_renew [Cond.code yX3_renew cX3_renew 3 none] ({ frames := 0, cells := 0, slots := 0, locals := 0 } : Room) (xPM s0 (dC, dI) [.ref gr, .int x, .int y] [] [(gr, .inr (3, [.ref gc, .int z1, .int z2, .int z3]))] sz) (xQM (dC, dI) (va_A [(gr, .inr (3, [.ref gc, .int z1, .int z2, .int z3]))] sz) (fun r w1 => r = none ∧ w1 = [(gr, .inr (3, [.ref gc, .int 1, .int x, .int y]))])) 0 0 (va_A [(gr, .inr (3, [.ref gc, .int z1, .int z2, .int z3]))] sz) := by
  refine Met.ofW (cc := cX3_renew) (maxL := 3) (ret := none) (by decide) rfl ?_
  intro p e s m args below meth c s₁ B hml hv
  obtain ⟨rfl, rfl, hb0, hPr, hP, hD0⟩ := hv
  have hx := B.exec
  have hb := B.bytes
  have hr := B.returns
  have hown : s.vm.findClass RX3 = some m.cls := findClass_of_methodNamed B.named
  have hlocks := B.notSynchronized
  have hK := h.K hb0
  have hS : va_S (va_A [(gr, .inr (3, [.ref gc, .int z1, .int z2, .int z3]))] s.heap.size) s.heap s.heap [] := va_S.rf
  obtain ⟨A, hAe, hD, hA, hz, hRo, hwk, hnR⟩ := xM_start hb0 hPr hP hD0
  rw [hAe] at hS ⊢
  have hl := lv_entry ([.ref gr, .int x, .int y]) (n := 3) (Nat.le_of_ble_eq_true rfl)
  rw [lg_entry_eq]
  generalize (lg_sl ([.ref gr, .int x, .int y]) ++ List.replicate (3 - (lg_sl ([.ref gr, .int x, .int y])).length) Slot.unset).toArray = ls at hl ⊢
  have hl : lv_has ls 3 [(0, .ref gr), (1, .int x), (2, .int y)] := hl
  refine lv_aload_n hx hb dX3_renew_0 rfl (lv_at hl 0 rfl) ?_
  refine lv_iconst (v := 1) hx hb dX3_renew_1 (by decide) ?_
  refine va_put (D := (dC, dI)) (ci := 3) (v := .int 1) (ty := .boolean) (C := RX3) (T := TX3) (N := 4) hx hb (ly_3 h hb0) (fun _ z => z) tyX3 tyX3_ok nmX3 hown hK hP hD hS 0 rfl rfl 1 (by decide) (k_77 h hb0) (fun _ z => z) rfl (by decide +kernel) rfl rfl (Nat.le_of_ble_eq_true rfl) dX3_renew_2 (fun H locs hP hD hS => ?_)
  have hP : va_P (dC, dI) vwCl [(gr, .inr (3, [.ref gc, .int 1, .int z2, .int z3]))] H := hP
  have hD : va_D A [(gr, .inr (3, [.ref gc, .int 1, .int z2, .int z3]))] := hD
  refine lv_aload_n hx hb dX3_renew_5 rfl (lv_at hl 0 rfl) ?_
  refine lv_iload_n hx hb dX3_renew_6 rfl (lv_at hl 1 rfl) ?_
  refine va_put (D := (dC, dI)) (ci := 3) (v := .int x) (ty := .int) (C := RX3) (T := TX3) (N := 4) hx hb (ly_3 h hb0) (fun _ z => z) tyX3 tyX3_ok nmX3 hown hK hP hD hS 0 rfl rfl 2 (by decide) (k_78 h hb0) (fun _ z => z) rfl (by decide +kernel) rfl rfl (Nat.le_of_ble_eq_true rfl) dX3_renew_7 (fun H locs hP hD hS => ?_)
  have hP : va_P (dC, dI) vwCl [(gr, .inr (3, [.ref gc, .int 1, .int x, .int z3]))] H := hP
  have hD : va_D A [(gr, .inr (3, [.ref gc, .int 1, .int x, .int z3]))] := hD
  refine lv_aload_n hx hb dX3_renew_10 rfl (lv_at hl 0 rfl) ?_
  refine lv_iload_n hx hb dX3_renew_11 rfl (lv_at hl 2 rfl) ?_
  refine va_put (D := (dC, dI)) (ci := 3) (v := .int y) (ty := .int) (C := RX3) (T := TX3) (N := 4) hx hb (ly_3 h hb0) (fun _ z => z) tyX3 tyX3_ok nmX3 hown hK hP hD hS 0 rfl rfl 3 (by decide) (k_79 h hb0) (fun _ z => z) rfl (by decide +kernel) rfl rfl (Nat.le_of_ble_eq_true rfl) dX3_renew_12 (fun H locs hP hD hS => ?_)
  have hP : va_P (dC, dI) vwCl [(gr, .inr (3, [.ref gc, .int 1, .int x, .int y]))] H := hP
  have hD : va_D A [(gr, .inr (3, [.ref gc, .int 1, .int x, .int y]))] := hD
  exact W.vret hx hb hr (fun t ht _ => ⟨none, _, rfl, ⟨rfl, rfl⟩, by rw [ht]; exact hP, hD, hS.F ht⟩) (fun q z => hS.2.2 q z) dX3_renew_15
def pz (f : Nat → Option Nat) (n : Nat) : Nat → Option Nat := fun i => if i < n then none else f i
theorem pz_0 (f : Nat → Option Nat) : pz f 0 = f := by funext i; simp [pz]
theorem pz_s (f : Nat → Option Nat) (i : Nat) : va_up (pz f i) i none = pz f (i + 1) := by
  funext j
  by_cases h : j = i
  · rw [h, va_up_self]; simp [pz]
  · rw [va_up_ne _ _ h]
    by_cases h3 : j < i
    · simp [pz, h3, show j < i + 1 by omega]
    · simp [pz, h3, show ¬ j < i + 1 by omega]
set_option maxHeartbeats 4000000 in
set_option maxRecDepth 100000 in
theorem c_brenew {l : Launch} {s0 : State} {a0 : Array Value} {dC : Nat → ClassId} {dI : Nat → Nat → Nat} {cA : Nat → ClassId} (h : xC l s0 a0 dC dI cA) (br pl : Nat) (z1 z2 z3 y : Int32) (f : Nat → Option Nat) (N : Nat) (sz : Nat) (hN : N < 20) (h01 : y = 0 ∨ y = 1) : Met l yX1_renew [Cond.code yX1_renew cX1_renew 4 none] ({ frames := 0, cells := 0, slots := 0, locals := 0 } : Room) (xPM s0 (dC, dI) [.ref br, .int (nI N), .int y] [] [(br, .inr (1, [.ref pl, .int z1, .int z2, .int z3])), (pl, .inl (cA 8, 19, .inr (.inr (.inr (.inr f)))))] sz) (xQM (dC, dI) (va_A [(br, .inr (1, [.ref pl, .int z1, .int z2, .int z3])), (pl, .inl (cA 8, 19, .inr (.inr (.inr (.inr f)))))] sz) (fun r w1 => r = none ∧ w1 = [(br, .inr (1, [.ref pl, .int 1, .int y, .int (nI N)])), (pl, .inl (cA 8, 19, .inr (.inr (.inr (.inr (pz f N))))))])) 0 0 (va_A [(br, .inr (1, [.ref pl, .int z1, .int z2, .int z3])), (pl, .inl (cA 8, 19, .inr (.inr (.inr (.inr f)))))] sz) := by
  refine Met.ofW (cc := cX1_renew) (maxL := 4) (ret := none) (by decide) rfl ?_
  intro p e s m args below meth c s₁ B hml hv
  obtain ⟨rfl, rfl, hb0, hPr, hP, hD0⟩ := hv
  have hx := B.exec
  have hb := B.bytes
  have hr := B.returns
  have hown : s.vm.findClass RX1 = some m.cls := findClass_of_methodNamed B.named
  have hlocks := B.notSynchronized
  have hK := h.K hb0
  have hS : va_S (va_A [(br, .inr (1, [.ref pl, .int z1, .int z2, .int z3])), (pl, .inl (cA 8, 19, .inr (.inr (.inr (.inr f)))))] s.heap.size) s.heap s.heap [] := va_S.rf
  obtain ⟨A, hAe, hD, hA, hz, hRo, hwk, hnR⟩ := xM_start hb0 hPr hP hD0
  rw [hAe] at hS ⊢
  have hl := lv_entry ([.ref br, .int (nI N), .int y]) (n := 4) (Nat.le_of_ble_eq_true rfl)
  rw [lg_entry_eq]
  generalize (lg_sl ([.ref br, .int (nI N), .int y]) ++ List.replicate (4 - (lg_sl ([.ref br, .int (nI N), .int y])).length) Slot.unset).toArray = ls at hl ⊢
  have hl : lv_has ls 4 [(0, .ref br), (1, .int (nI N)), (2, .int y)] := hl
  refine lv_iconst (v := 0) hx hb dX1_renew_0 (by decide) ?_
  refine lv_istore_n (lv' := [(3, .int 0), (0, .ref br), (1, .int (nI N)), (2, .int y)]) hx hb dX1_renew_1 rfl hl (by decide) rfl (fun ls hl => ?_)
  refine xloop (σ := Array Slot × Heap × List Loc) (fun i z => lv_has z.1 4 [(3, .int (nI i)), (0, .ref br), (1, .int (nI N)), (2, .int y)] ∧ va_P (dC, dI) vwCl [(br, .inr (1, [.ref pl, .int z1, .int z2, .int z3])), (pl, .inl (cA 8, 19, .inr (.inr (.inr (.inr (pz f i))))))] z.2.1 ∧ va_D A [(br, .inr (1, [.ref pl, .int z1, .int z2, .int z3])), (pl, .inl (cA 8, 19, .inr (.inr (.inr (.inr (pz f i))))))] ∧ va_S A s.heap z.2.1 z.2.2) (fun z => W p l e _ s m _ below meth c z.2.1 z.2.2 _ _ _ (F0 m 2 z.1 [])) N ?_ ?_ (ls, _, _) ⟨hl, by rw [pz_0]; exact hP, by rw [pz_0]; exact hD, hS⟩
  · rintro i ⟨ls, H, locs⟩ hi ⟨hl, hP, hD, hS⟩ ih
    have hl : lv_has ls 4 [(3, .int (nI i)), (0, .ref br), (1, .int (nI N)), (2, .int y)] := hl
    have hP : va_P (dC, dI) vwCl [(br, .inr (1, [.ref pl, .int z1, .int z2, .int z3])), (pl, .inl (cA 8, 19, .inr (.inr (.inr (.inr (pz f i))))))] H := hP
    have hD : va_D A [(br, .inr (1, [.ref pl, .int z1, .int z2, .int z3])), (pl, .inl (cA 8, 19, .inr (.inr (.inr (.inr (pz f i))))))] := hD
    have hS : va_S A s.heap H locs := hS
    show W p l e _ s m _ below meth c H locs _ _ _ (F0 m 2 ls [])
    refine lv_iload_n hx hb dX1_renew_2 rfl (lv_at hl 0 rfl) ?_
    refine lv_iload_n hx hb dX1_renew_3 rfl (lv_at hl 2 rfl) ?_
    refine lv_icmp_ge (tgt := 20) hx hb dX1_renew_4 (by decide) (fun c_1 => ?_) (fun c_1 => ?_)
    · exact absurd c_1 (nI_ge hi (by omega))
    · refine lv_aload_n hx hb dX1_renew_7 rfl (lv_at hl 1 rfl) ?_
      refine va_get (D := (dC, dI)) (ci := 1) (v := .ref pl) (C := RX1) (T := TX1) (N := 4) hx hb (ly_1 h hb0) (fun _ z => z) hown hK hP 0 rfl rfl 0 (by decide) (k_97 h hb0) (fun _ z => z) rfl dX1_renew_8 ?_
      refine lv_iload_n hx hb dX1_renew_11 rfl (lv_at hl 0 rfl) ?_
      refine lv_null hx hb dX1_renew_12 ?_
      refine va_astqN hx hb hK hP hD hS 1 8 rfl rfl (vp_in_nI (by omega) (by decide)) dX1_renew_13 (fun H locs hP hD hS => ?_)
      have hP : va_P (dC, dI) vwCl [(br, .inr (1, [.ref pl, .int z1, .int z2, .int z3])), (pl, .inl (cA 8, 19, .inr (.inr (.inr (.inr (va_up (pz f i) (nI i).toNatClampNeg none))))))] H := hP
      have hD : va_D A [(br, .inr (1, [.ref pl, .int z1, .int z2, .int z3])), (pl, .inl (cA 8, 19, .inr (.inr (.inr (.inr (va_up (pz f i) (nI i).toNatClampNeg none))))))] := hD
      refine lv_iinc (lv' := [(3, .int (nI (i + 1))), (0, .ref br), (1, .int (nI N)), (2, .int y)]) hx hb dX1_renew_14 hl (k := 0) rfl (nI_1 _) (by decide) rfl (fun ls hl => ?_)
      refine lv_goto (tgt := 2) hx hb dX1_renew_17 (by decide) ?_
      rw [nI_clamp (by omega), pz_s] at hP hD
      exact ih (ls, _, _) ⟨hl, hP, hD, hS⟩
  · rintro ⟨ls, H, locs⟩ ⟨hl, hP, hD, hS⟩
    have hl : lv_has ls 4 [(3, .int (nI N)), (0, .ref br), (1, .int (nI N)), (2, .int y)] := hl
    have hP : va_P (dC, dI) vwCl [(br, .inr (1, [.ref pl, .int z1, .int z2, .int z3])), (pl, .inl (cA 8, 19, .inr (.inr (.inr (.inr (pz f N))))))] H := hP
    have hD : va_D A [(br, .inr (1, [.ref pl, .int z1, .int z2, .int z3])), (pl, .inl (cA 8, 19, .inr (.inr (.inr (.inr (pz f N))))))] := hD
    have hS : va_S A s.heap H locs := hS
    show W p l e _ s m _ below meth c H locs _ _ _ (F0 m 2 ls [])
    refine lv_iload_n hx hb dX1_renew_2 rfl (lv_at hl 0 rfl) ?_
    refine lv_iload_n hx hb dX1_renew_3 rfl (lv_at hl 2 rfl) ?_
    refine lv_icmp_ge (tgt := 20) hx hb dX1_renew_4 (by decide) (fun c_2 => ?_) (fun c_2 => ?_)
    · refine lv_aload_n hx hb dX1_renew_20 rfl (lv_at hl 1 rfl) ?_
      refine lv_iconst (v := 1) hx hb dX1_renew_21 (by decide) ?_
      refine va_put (D := (dC, dI)) (ci := 1) (v := .int 1) (ty := .boolean) (C := RX1) (T := TX1) (N := 4) hx hb (ly_1 h hb0) (fun _ z => z) tyX1 tyX1_ok nmX1 hown hK hP hD hS 0 rfl rfl 1 (by decide) (k_98 h hb0) (fun _ z => z) rfl (by decide +kernel) rfl rfl (Nat.le_of_ble_eq_true rfl) dX1_renew_22 (fun H locs hP hD hS => ?_)
      have hP : va_P (dC, dI) vwCl [(br, .inr (1, [.ref pl, .int 1, .int z2, .int z3])), (pl, .inl (cA 8, 19, .inr (.inr (.inr (.inr (pz f N))))))] H := hP
      have hD : va_D A [(br, .inr (1, [.ref pl, .int 1, .int z2, .int z3])), (pl, .inl (cA 8, 19, .inr (.inr (.inr (.inr (pz f N))))))] := hD
      refine lv_aload_n hx hb dX1_renew_25 rfl (lv_at hl 1 rfl) ?_
      refine lv_iload_n hx hb dX1_renew_26 rfl (lv_at hl 3 rfl) ?_
      refine va_put (D := (dC, dI)) (ci := 1) (v := .int y) (ty := .boolean) (C := RX1) (T := TX1) (N := 4) hx hb (ly_1 h hb0) (fun _ z => z) tyX1 tyX1_ok nmX1 hown hK hP hD hS 0 rfl rfl 2 (by decide) (k_99 h hb0) (fun _ z => z) rfl (by decide +kernel) (xz01 h01) (xf01 h01) (Nat.le_of_ble_eq_true rfl) dX1_renew_27 (fun H locs hP hD hS => ?_)
      have hP : va_P (dC, dI) vwCl [(br, .inr (1, [.ref pl, .int 1, .int y, .int z3])), (pl, .inl (cA 8, 19, .inr (.inr (.inr (.inr (pz f N))))))] H := hP
      have hD : va_D A [(br, .inr (1, [.ref pl, .int 1, .int y, .int z3])), (pl, .inl (cA 8, 19, .inr (.inr (.inr (.inr (pz f N))))))] := hD
      refine lv_aload_n hx hb dX1_renew_30 rfl (lv_at hl 1 rfl) ?_
      refine lv_iload_n hx hb dX1_renew_31 rfl (lv_at hl 2 rfl) ?_
      refine va_put (D := (dC, dI)) (ci := 1) (v := .int (nI N)) (ty := .int) (C := RX1) (T := TX1) (N := 4) hx hb (ly_1 h hb0) (fun _ z => z) tyX1 tyX1_ok nmX1 hown hK hP hD hS 0 rfl rfl 3 (by decide) (k_100 h hb0) (fun _ z => z) rfl (by decide +kernel) rfl rfl (Nat.le_of_ble_eq_true rfl) dX1_renew_32 (fun H locs hP hD hS => ?_)
      have hP : va_P (dC, dI) vwCl [(br, .inr (1, [.ref pl, .int 1, .int y, .int (nI N)])), (pl, .inl (cA 8, 19, .inr (.inr (.inr (.inr (pz f N))))))] H := hP
      have hD : va_D A [(br, .inr (1, [.ref pl, .int 1, .int y, .int (nI N)])), (pl, .inl (cA 8, 19, .inr (.inr (.inr (.inr (pz f N))))))] := hD
      exact W.vret hx hb hr (fun t ht _ => ⟨none, _, rfl, ⟨rfl, rfl⟩, by rw [ht]; exact hP, hD, hS.F ht⟩) (fun q z => hS.2.2 q z) dX1_renew_35
    · exact absurd (nI_le (Nat.le_refl N) (by omega)) c_2
