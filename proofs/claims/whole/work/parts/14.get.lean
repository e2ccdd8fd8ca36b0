/-! Reading: the getters of the rows, the grid and the boxes. -/
section XGA
variable {p : Program} {l : Launch} {e : Env} {R : Room} {s : State} {m : MethodId} {args : Array Value} {below : List Frame} {meth : Method} {c : Code} {H : Heap} {locs : List Loc} {cells slots : Nat} {Q : State → Prop}
variable {pc : Nat} {ls : Array Slot} {rest st0 : List Value} {a : Array Value}
theorem xr_1 {v : Value} (hr : va_Run p l e R s m args below meth c H locs cells slots 0 0 (F0 m pc ls st0) rest (xR (some v) a) (fun _ => False)) (kk : W p l e R s m args below meth c H locs cells slots Q (F0 m (pc + 3) ls (v :: rest))) : W p l e R s m args below meth c H locs cells slots Q (F0 m pc ls st0) := xr_of hr kk
theorem xr_0 (hr : va_Run p l e R s m args below meth c H locs cells slots 0 0 (F0 m pc ls st0) rest (xR none a) (fun _ => False)) (kk : W p l e R s m args below meth c H locs cells slots Q (F0 m (pc + 3) ls rest)) : W p l e R s m args below meth c H locs cells slots Q (F0 m pc ls st0) := xr_of hr kk
/-- a row of an array of arrays -/
theorem xaldA {cc : ByteArray} {D : va_G} {cl : List vw_C} {tys : List (ClassId × FieldType)} {ws : va_W} {b : Nat} (hexec : p.tables.exec = Jvm.exec) (hb : c.code = cc) (hK : va_K D cl tys s) (hP : va_P D cl ws H) (q0 t0 : Nat) {cX : ClassId} {t : FieldType} {n : Nat} {f : Nat → Option Nat} (ha : ws[q0]? = some (b, .inl (cX, n, .inr (.inr (.inr (.inr f)))))) (ht : tys[t0]? = some (cX, .array t)) {i : Int32} (hin : vp_in i n) (hdg : decode cc pc = .ok (.aaload, 1))
    (kk : W p l e R s m args below meth c H locs cells slots Q (F0 m (pc + 1) ls (va_rf (f i.toNatClampNeg) :: rest))) : W p l e R s m args below meth c H locs cells slots Q (F0 m pc ls (.int i :: .ref b :: rest)) := by
  have hlt : i.toNatClampNeg < n := Nat.not_le.mp fun q => hin (Or.inr q)
  exact W.aald (v := va_rf (f i.toNatClampNeg)) (ty := .array t) hexec hb (hP q0 _ ha) ((hK.2 t0 _ ht).1 n (fun j => va_rf (f j))) rfl (fun q => by cases q) (by show ¬ (i < 0 ∨ (arrV _ _ _).slots.size ≤ _); rw [arrV_size]; exact hin) (by show (arrV _ _ _).slots[_]? = _; rw [arrV_read _ _ hlt]) rfl rfl hdg kk
end XGA
/-- a loop that counts up to N -/
theorem xloop {σ : Type} (I : Nat → σ → Prop) (Wk : σ → Prop) (N : Nat) (step : ∀ (i : Nat) (z : σ), i < N → I i z → (∀ z', I (i + 1) z' → Wk z') → Wk z) (done : ∀ z, I N z → Wk z) (z : σ) (h0 : I 0 z) : Wk z := by
  have key : ∀ (k i : Nat) (z : σ), i + k = N → I i z → Wk z := by
    intro k
    induction k with
    | zero => intro i z h1 h2; rw [Nat.add_zero] at h1; subst h1; exact done z h2
    | succ k ih => intro i z h1 h2; exact step i z (by omega) h2 (fun z' h3 => ih (i + 1) z' (by omega) h3)
  exact key N 0 z (by omega) h0
theorem xz01 {z : Int32} (h : z = 0 ∨ z = 1) : narrow .boolean (.int z) = .int z := by rcases h with rfl | rfl <;> rfl
theorem xf01 {z : Int32} (h : z = 0 ∨ z = 1) : fits .boolean (.int z) = true := by rcases h with rfl | rfl <;> rfl
set_option maxRecDepth 100000 in
theorem xo_140 {l : Launch} {s0 : State} {a0 : Array Value} {dC : Nat → ClassId} {dI : Nat → Nat → Nat} {cA : Nat → ClassId} {s : State} {args : Array Value} (h : xC l s0 a0 dC dI cA) (hb : xb s0 s) : ∀ w ∈ xn_at RX5 140, w.before args s = true := by
  have hr : ∀ w ∈ (xn_at RX5 140).filter (fun w => !decide (w = Cond.castable Bundle.rN Bundle.tN)), w.before args s = true := h.all hb _ (by decide +kernel)
  intro w hw
  by_cases he : w = Cond.castable Bundle.rN Bundle.tN
  · rw [he]
    exact xn_cast (hr _ (by decide +kernel)) (hr _ (by decide +kernel)) (hr _ (by decide +kernel))
  · exact hr w (List.mem_filter.mpr ⟨hw, by simp [he]⟩)
set_option maxRecDepth 100000 in
theorem xNoDisc {l : Launch} {s0 : State} {a0 : Array Value} {dC : Nat → ClassId} {dI : Nat → Nat → Nat} {cA : Nat → ClassId} {s : State} (h : xC l s0 a0 dC dI cA) (hb : xb s0 s) : va_Nc RX0 RX2 s := h.nc hb (by decide +kernel)
/-! What the rows' cells hold where the int g k i was put last at place i of the row of kind k. -/
def r0 (g : Nat → Nat → Int32) : Nat → Int32 := fun i => g 0 i
def r1 (g : Nat → Nat → Int32) : Nat → Int64 := fun i => (g 1 i).toInt64
def r2 (g : Nat → Nat → Int32) : Nat → Int32 := fun i => (g 2 i).toInt16.toInt32
def r3 (g : Nat → Nat → Int32) : Nat → Int32 := fun i => (g 3 i).toInt8.toInt32
def r4 (g : Nat → Nat → Int32) : Nat → Int32 := fun i => ((g 4 i).toUInt32 % 65536).toInt32
def r5 (g : Nat → Nat → Int32) : Nat → Int32 := fun i => if g 5 i = 0 then 0 else 1
def r6 (g : Nat → Nat → Int32) := fun i : Nat => FP.i2f (g 6 i)
def r7 (g : Nat → Nat → Int32) := fun i : Nat => FP.i2d (g 7 i)
/-- the number that the row of kind k keeps of v -/
def rd (k : Nat) (v : Int32) : Int64 := match k with
  | 0 => v.toInt64
  | 1 => v.toInt64
  | 2 => v.toInt16.toInt32.toInt64
  | 3 => v.toInt8.toInt32.toInt64
  | 4 => (v.toUInt32 % 65536).toInt32.toInt64
  | 5 => if v = 0 then 0 else 1
  | 6 => FP.f2l (FP.i2f v)
  | _ => FP.d2l (FP.i2d v)
set_option maxHeartbeats 4000000 in
set_option maxRecDepth 100000 in
theorem c_needThere {l : Launch} {s0 : State} {a0 : Array Value} {dC : Nat → ClassId} {dI : Nat → Nat → Nat} {cA : Nat → ClassId} (h : xC l s0 a0 dC dI cA) (p0 : Int32) (hc : ¬ p0 = 0) : Met l yX5_needThere [Cond.code yX5_needThere cX5_needThere 1 none] ({ frames := 0, cells := 0, slots := 0, locals := 0 } : Room) (xP s0 (dC, dI) [.int p0] []) (xR none) 0 0 (fun _ => False) := by
  refine Met.ofW (cc := cX5_needThere) (maxL := 1) (ret := none) (by decide) rfl ?_
  intro p e s m args below meth c s₁ B hml hv
  obtain ⟨rfl, hb0, hP⟩ := hv
  have hx := B.exec
  have hb := B.bytes
  have hr := B.returns
  have hown : s.vm.findClass RX5 = some m.cls := findClass_of_methodNamed B.named
  have hlocks := B.notSynchronized
  have hK := h.K hb0
  have hS : va_S (fun _ : Nat => False) s.heap s.heap [] := va_S.rf
  have hz : ∀ q : Nat, (fun _ : Nat => False) q → s0.heap.size ≤ q := fun _ z => z.elim
  have hl := lv_entry ([.int p0]) (n := 1) (Nat.le_of_ble_eq_true rfl)
  rw [lg_entry_eq]
  generalize (lg_sl ([.int p0]) ++ List.replicate (1 - (lg_sl ([.int p0])).length) Slot.unset).toArray = ls at hl ⊢
  have hl : lv_has ls 1 [(0, .int p0)] := hl
  refine lv_iload_n hx hb dX5_needThere_0 rfl (lv_at hl 0 rfl) ?_
  refine lv_if_ne (tgt := 14) hx hb dX5_needThere_1 (by decide) (fun c_1 => ?_) (fun c_1 => ?_)
  · exact W.vret hx hb hr (fun t ht _ => ⟨rfl, ht⟩) (fun q z => nomatch z) dX5_needThere_14
  · exact absurd c_1 hc
set_option maxHeartbeats 4000000 in
set_option maxRecDepth 100000 in
theorem t_needThere {l : Launch} {s0 : State} {a0 : Array Value} {dC : Nat → ClassId} {dI : Nat → Nat → Nat} {cA : Nat → ClassId} (h : xC l s0 a0 dC dI cA) (p0 : Int32) (hc : p0 = 0) : xt_Met l yX5_needThere [Cond.code yX5_needThere cX5_needThere 1 none] ({ frames := 7, cells := 1, slots := 8, locals := 110 } : Room) (xP s0 (dC, dI) [.int p0] []) "java/lang/NullPointerException" 1 8 := by
  refine xt_ofW (cc := cX5_needThere) (maxL := 1) (ret := none) (by decide) rfl ?_
  intro p e s m args below meth c s₁ B hml hout hv
  obtain ⟨rfl, hb0, hP⟩ := hv
  have hx := B.exec
  have hb := B.bytes
  have hr := B.returns
  have hown : s.vm.findClass RX5 = some m.cls := findClass_of_methodNamed B.named
  have hlocks := B.notSynchronized
  have hK := h.K hb0
  have hS : va_S (fun _ : Nat => False) s.heap s.heap [] := va_S.rf
  have hz : ∀ q : Nat, (fun _ : Nat => False) q → s0.heap.size ≤ q := fun _ z => z.elim
  have hl := lv_entry ([.int p0]) (n := 1) (Nat.le_of_ble_eq_true rfl)
  rw [lg_entry_eq]
  generalize (lg_sl ([.int p0]) ++ List.replicate (1 - (lg_sl ([.int p0])).length) Slot.unset).toArray = ls at hl ⊢
  have hl : lv_has ls 1 [(0, .int p0)] := hl
  refine lv_iload_n hx hb dX5_needThere_0 rfl (lv_at hl 0 rfl) ?_
  refine lv_if_ne (tgt := 14) hx hb dX5_needThere_1 (by decide) (fun c_1 => ?_) (fun c_1 => ?_)
  · exact absurd hc c_1
  · exact xt_throwN (own := RX5) hx hb h.1 hown (k_141 h hb0) (k_9 h hb0) (k_194 h hb0) (xo_140 h hb0) (hl.1.trans hml.symm) hout hlocks dX5_needThere_4 dX5_needThere_7 dX5_needThere_8 dX5_needThere_10 dX5_needThere_13 (by decide) (by decide) (by decide) (by decide) (by decide) (by decide)
set_option maxHeartbeats 4000000 in
set_option maxRecDepth 100000 in
theorem c_cellCount {l : Launch} {s0 : State} {a0 : Array Value} {dC : Nat → ClassId} {dI : Nat → Nat → Nat} {cA : Nat → ClassId} (h : xC l s0 a0 dC dI cA) (ro b0 b1 b2 b3 b4 b5 b6 b7 b8 : Nat) (n : Nat → Int32) (g : Nat → Nat → Int32) (x : Int32) (hi : vp_in x 8) : Met l yX4_cellCount [Cond.code yX4_cellCount cX4_cellCount 2 (some .int)] ({ frames := 0, cells := 0, slots := 0, locals := 0 } : Room) (xP s0 (dC, dI) [.ref ro, .int x] [(ro, .inr (4, [.ref b0, .ref b1, .ref b2, .ref b3, .ref b4, .ref b5, .ref b6, .ref b7, .ref b8])), (b0, .inl (cA 0, 8, .inl n))]) (xR (some (.int (n x.toNatClampNeg)))) 0 0 (fun _ => False) := by
  refine Met.ofW (cc := cX4_cellCount) (maxL := 2) (ret := (some .int)) (by decide) rfl ?_
  intro p e s m args below meth c s₁ B hml hv
  obtain ⟨rfl, hb0, hP⟩ := hv
  have hx := B.exec
  have hb := B.bytes
  have hr := B.returns
  have hown : s.vm.findClass RX4 = some m.cls := findClass_of_methodNamed B.named
  have hlocks := B.notSynchronized
  have hK := h.K hb0
  have hS : va_S (fun _ : Nat => False) s.heap s.heap [] := va_S.rf
  have hz : ∀ q : Nat, (fun _ : Nat => False) q → s0.heap.size ≤ q := fun _ z => z.elim
  have hl := lv_entry ([.ref ro, .int x]) (n := 2) (Nat.le_of_ble_eq_true rfl)
  rw [lg_entry_eq]
  generalize (lg_sl ([.ref ro, .int x]) ++ List.replicate (2 - (lg_sl ([.ref ro, .int x])).length) Slot.unset).toArray = ls at hl ⊢
  have hl : lv_has ls 2 [(0, .ref ro), (1, .int x)] := hl
  refine lv_aload_n hx hb dX4_cellCount_0 rfl (lv_at hl 0 rfl) ?_
  refine va_get (D := (dC, dI)) (ci := 4) (v := .ref b0) (C := RX4) (T := TX4) (N := 9) hx hb (ly_4 h hb0) (fun _ z => z) hown hK hP 0 rfl rfl 0 (by decide) (k_32 h hb0) (fun _ z => z) rfl dX4_cellCount_1 ?_
  refine lv_iload_n hx hb dX4_cellCount_4 rfl (lv_at hl 1 rfl) ?_
  refine va_iald hx hb hK hP 1 0 rfl rfl hi dX4_cellCount_5 ?_
  exact W.iret hx hb hr (fun t ht _ => ⟨rfl, ht⟩) (fun q z => nomatch z) dX4_cellCount_6
set_option maxHeartbeats 4000000 in
set_option maxRecDepth 100000 in
theorem c_numberAt {l : Launch} {s0 : State} {a0 : Array Value} {dC : Nat → ClassId} {dI : Nat → Nat → Nat} {cA : Nat → ClassId} (h : xC l s0 a0 dC dI cA) (ro b0 b1 b2 b3 b4 b5 b6 b7 b8 : Nat) (n : Nat → Int32) (g : Nat → Nat → Int32) (K : Nat) (x : Int32) (hK8 : K < 8) (hi : vp_in x 39) : Met l yX4_numberAt [Cond.code yX4_numberAt cX4_numberAt 3 (some .long)] ({ frames := 0, cells := 0, slots := 0, locals := 0 } : Room) (xP s0 (dC, dI) [.ref ro, .int (nI K), .int x] [(ro, .inr (4, [.ref b0, .ref b1, .ref b2, .ref b3, .ref b4, .ref b5, .ref b6, .ref b7, .ref b8])), (b1, .inl (cA 0, 39, .inl (r0 g))), (b2, .inl (cA 1, 39, .inr (.inl (r1 g)))), (b3, .inl (cA 2, 39, .inl (r2 g))), (b4, .inl (cA 3, 39, .inl (r3 g))), (b5, .inl (cA 4, 39, .inl (r4 g))), (b6, .inl (cA 5, 39, .inl (r5 g))), (b7, .inl (cA 6, 39, .inr (.inr (.inl (r6 g))))), (b8, .inl (cA 7, 39, .inr (.inr (.inr (.inl (r7 g))))))]) (xR (some (.long (rd K (g K x.toNatClampNeg))))) 0 0 (fun _ => False) := by
  refine Met.ofW (cc := cX4_numberAt) (maxL := 3) (ret := (some .long)) (by decide) rfl ?_
  intro p e s m args below meth c s₁ B hml hv
  obtain ⟨rfl, hb0, hP⟩ := hv
  have hx := B.exec
  have hb := B.bytes
  have hr := B.returns
  have hown : s.vm.findClass RX4 = some m.cls := findClass_of_methodNamed B.named
  have hlocks := B.notSynchronized
  have hK := h.K hb0
  have hS : va_S (fun _ : Nat => False) s.heap s.heap [] := va_S.rf
  have hz : ∀ q : Nat, (fun _ : Nat => False) q → s0.heap.size ≤ q := fun _ z => z.elim
  have hl := lv_entry ([.ref ro, .int (nI K), .int x]) (n := 3) (Nat.le_of_ble_eq_true rfl)
  rw [lg_entry_eq]
  generalize (lg_sl ([.ref ro, .int (nI K), .int x]) ++ List.replicate (3 - (lg_sl ([.ref ro, .int (nI K), .int x])).length) Slot.unset).toArray = ls at hl ⊢
  have hl : lv_has ls 3 [(0, .ref ro), (1, .int (nI K)), (2, .int x)] := hl
  refine lv_iload_n hx hb dX4_numberAt_0 rfl (lv_at hl 1 rfl) ?_
  have hk : K = 0 ∨ K = 1 ∨ K = 2 ∨ K = 3 ∨ K = 4 ∨ K = 5 ∨ K = 6 ∨ K = 7 := by omega
  rcases hk with rfl | rfl | rfl | rfl | rfl | rfl | rfl | rfl
  · refine lv_tableIn (off := 43) (tgt := 44) hx hb dX4_numberAt_1 (by decide) (by decide) (by decide) (by decide) ?_
    refine lv_aload_n hx hb dX4_numberAt_44 rfl (lv_at hl 0 rfl) ?_
    refine va_get (D := (dC, dI)) (ci := 4) (v := .ref b1) (C := RX4) (T := TX4) (N := 9) hx hb (ly_4 h hb0) (fun _ z => z) hown hK hP 0 rfl rfl 1 (by decide) (k_33 h hb0) (fun _ z => z) rfl dX4_numberAt_45 ?_
    refine lv_iload_n hx hb dX4_numberAt_48 rfl (lv_at hl 2 rfl) ?_
    refine va_iald hx hb hK hP 1 0 rfl rfl hi dX4_numberAt_49 ?_
    refine lv_i2l hx hb dX4_numberAt_50 rfl ?_
    refine lv_goto (tgt := 127) hx hb dX4_numberAt_51 (by decide) ?_
    exact W.lret hx hb hr (fun t ht _ => ⟨rfl, ht⟩) (fun q z => nomatch z) dX4_numberAt_127
  · refine lv_tableIn (off := 53) (tgt := 54) hx hb dX4_numberAt_1 (by decide) (by decide) (by decide) (by decide) ?_
    refine lv_aload_n hx hb dX4_numberAt_54 rfl (lv_at hl 0 rfl) ?_
    refine va_get (D := (dC, dI)) (ci := 4) (v := .ref b2) (C := RX4) (T := TX4) (N := 9) hx hb (ly_4 h hb0) (fun _ z => z) hown hK hP 0 rfl rfl 2 (by decide) (k_34 h hb0) (fun _ z => z) rfl dX4_numberAt_55 ?_
    refine lv_iload_n hx hb dX4_numberAt_58 rfl (lv_at hl 2 rfl) ?_
    refine va_lald hx hb hK hP 2 1 rfl rfl hi dX4_numberAt_59 ?_
    refine lv_goto (tgt := 127) hx hb dX4_numberAt_60 (by decide) ?_
    exact W.lret hx hb hr (fun t ht _ => ⟨rfl, ht⟩) (fun q z => nomatch z) dX4_numberAt_127
  · refine lv_tableIn (off := 62) (tgt := 63) hx hb dX4_numberAt_1 (by decide) (by decide) (by decide) (by decide) ?_
    refine lv_aload_n hx hb dX4_numberAt_63 rfl (lv_at hl 0 rfl) ?_
    refine va_get (D := (dC, dI)) (ci := 4) (v := .ref b3) (C := RX4) (T := TX4) (N := 9) hx hb (ly_4 h hb0) (fun _ z => z) hown hK hP 0 rfl rfl 3 (by decide) (k_35 h hb0) (fun _ z => z) rfl dX4_numberAt_64 ?_
    refine lv_iload_n hx hb dX4_numberAt_67 rfl (lv_at hl 2 rfl) ?_
    refine va_sald hx hb hK hP 3 2 rfl rfl hi dX4_numberAt_68 ?_
    refine lv_i2l hx hb dX4_numberAt_69 rfl ?_
    refine lv_goto (tgt := 127) hx hb dX4_numberAt_70 (by decide) ?_
    exact W.lret hx hb hr (fun t ht _ => ⟨rfl, ht⟩) (fun q z => nomatch z) dX4_numberAt_127
  · refine lv_tableIn (off := 72) (tgt := 73) hx hb dX4_numberAt_1 (by decide) (by decide) (by decide) (by decide) ?_
    refine lv_aload_n hx hb dX4_numberAt_73 rfl (lv_at hl 0 rfl) ?_
    refine va_get (D := (dC, dI)) (ci := 4) (v := .ref b4) (C := RX4) (T := TX4) (N := 9) hx hb (ly_4 h hb0) (fun _ z => z) hown hK hP 0 rfl rfl 4 (by decide) (k_36 h hb0) (fun _ z => z) rfl dX4_numberAt_74 ?_
    refine lv_iload_n hx hb dX4_numberAt_77 rfl (lv_at hl 2 rfl) ?_
    refine va_bald hx hb hK hP 4 3 rfl rfl hi dX4_numberAt_78 ?_
    refine lv_i2l hx hb dX4_numberAt_79 rfl ?_
    refine lv_goto (tgt := 127) hx hb dX4_numberAt_80 (by decide) ?_
    exact W.lret hx hb hr (fun t ht _ => ⟨rfl, ht⟩) (fun q z => nomatch z) dX4_numberAt_127
  · refine lv_tableIn (off := 82) (tgt := 83) hx hb dX4_numberAt_1 (by decide) (by decide) (by decide) (by decide) ?_
    refine lv_aload_n hx hb dX4_numberAt_83 rfl (lv_at hl 0 rfl) ?_
    refine va_get (D := (dC, dI)) (ci := 4) (v := .ref b5) (C := RX4) (T := TX4) (N := 9) hx hb (ly_4 h hb0) (fun _ z => z) hown hK hP 0 rfl rfl 5 (by decide) (k_37 h hb0) (fun _ z => z) rfl dX4_numberAt_84 ?_
    refine lv_iload_n hx hb dX4_numberAt_87 rfl (lv_at hl 2 rfl) ?_
    refine va_cald hx hb hK hP 5 4 rfl rfl hi dX4_numberAt_88 ?_
    refine lv_i2l hx hb dX4_numberAt_89 rfl ?_
    refine lv_goto (tgt := 127) hx hb dX4_numberAt_90 (by decide) ?_
    exact W.lret hx hb hr (fun t ht _ => ⟨rfl, ht⟩) (fun q z => nomatch z) dX4_numberAt_127
  · refine lv_tableIn (off := 92) (tgt := 93) hx hb dX4_numberAt_1 (by decide) (by decide) (by decide) (by decide) ?_
    refine lv_aload_n hx hb dX4_numberAt_93 rfl (lv_at hl 0 rfl) ?_
    refine va_get (D := (dC, dI)) (ci := 4) (v := .ref b6) (C := RX4) (T := TX4) (N := 9) hx hb (ly_4 h hb0) (fun _ z => z) hown hK hP 0 rfl rfl 6 (by decide) (k_38 h hb0) (fun _ z => z) rfl dX4_numberAt_94 ?_
    refine lv_iload_n hx hb dX4_numberAt_97 rfl (lv_at hl 2 rfl) ?_
    refine va_zald hx hb hK hP 6 5 rfl rfl hi dX4_numberAt_98 ?_
    refine lv_if_eq (tgt := 106) hx hb dX4_numberAt_99 (by decide) (fun c_1 => ?_) (fun c_1 => ?_)
    · refine lv_lconst (v := 0) hx hb dX4_numberAt_106 (by decide) ?_
      refine lv_goto (tgt := 127) hx hb dX4_numberAt_107 (by decide) ?_
      rw [show (0 : Int64) = rd 5 (g 5 x.toNatClampNeg) by have c_1 : (if g 5 x.toNatClampNeg = 0 then (0 : Int32) else 1) = 0 := c_1; by_cases q : g 5 x.toNatClampNeg = 0 <;> simp_all [rd]]
      exact W.lret hx hb hr (fun t ht _ => ⟨rfl, ht⟩) (fun q z => nomatch z) dX4_numberAt_127
    · refine lv_lconst (v := 1) hx hb dX4_numberAt_102 (by decide) ?_
      refine lv_goto (tgt := 127) hx hb dX4_numberAt_103 (by decide) ?_
      rw [show (1 : Int64) = rd 5 (g 5 x.toNatClampNeg) by have c_1 : ¬ (if g 5 x.toNatClampNeg = 0 then (0 : Int32) else 1) = 0 := c_1; by_cases q : g 5 x.toNatClampNeg = 0 <;> simp_all [rd]]
      exact W.lret hx hb hr (fun t ht _ => ⟨rfl, ht⟩) (fun q z => nomatch z) dX4_numberAt_127
  · refine lv_tableIn (off := 109) (tgt := 110) hx hb dX4_numberAt_1 (by decide) (by decide) (by decide) (by decide) ?_
    refine lv_aload_n hx hb dX4_numberAt_110 rfl (lv_at hl 0 rfl) ?_
    refine va_get (D := (dC, dI)) (ci := 4) (v := .ref b7) (C := RX4) (T := TX4) (N := 9) hx hb (ly_4 h hb0) (fun _ z => z) hown hK hP 0 rfl rfl 7 (by decide) (k_39 h hb0) (fun _ z => z) rfl dX4_numberAt_111 ?_
    refine lv_iload_n hx hb dX4_numberAt_114 rfl (lv_at hl 2 rfl) ?_
    refine va_fald hx hb hK hP 7 6 rfl rfl hi dX4_numberAt_115 ?_
    refine lv_f2l hx hb dX4_numberAt_116 ?_
    refine lv_goto (tgt := 127) hx hb dX4_numberAt_117 (by decide) ?_
    exact W.lret hx hb hr (fun t ht _ => ⟨rfl, ht⟩) (fun q z => nomatch z) dX4_numberAt_127
  · refine lv_tableOut (tgt := 120) hx hb dX4_numberAt_1 (by decide) (by decide) ?_
    refine lv_aload_n hx hb dX4_numberAt_120 rfl (lv_at hl 0 rfl) ?_
    refine va_get (D := (dC, dI)) (ci := 4) (v := .ref b8) (C := RX4) (T := TX4) (N := 9) hx hb (ly_4 h hb0) (fun _ z => z) hown hK hP 0 rfl rfl 8 (by decide) (k_40 h hb0) (fun _ z => z) rfl dX4_numberAt_121 ?_
    refine lv_iload_n hx hb dX4_numberAt_124 rfl (lv_at hl 2 rfl) ?_
    refine va_dald hx hb hK hP 8 7 rfl rfl hi dX4_numberAt_125 ?_
    refine lv_d2l hx hb dX4_numberAt_126 ?_
    exact W.lret hx hb hr (fun t ht _ => ⟨rfl, ht⟩) (fun q z => nomatch z) dX4_numberAt_127
set_option maxHeartbeats 4000000 in
set_option maxRecDepth 100000 in
theorem c_gisMade {l : Launch} {s0 : State} {a0 : Array Value} {dC : Nat → ClassId} {dI : Nat → Nat → Nat} {cA : Nat → ClassId} (h : xC l s0 a0 dC dI cA) (gr gc : Nat) (z1 z2 z3 : Int32) (h01 : z1 = 0 ∨ z1 = 1) : Met l yX3_isMade [Cond.code yX3_isMade cX3_isMade 1 (some .boolean)] ({ frames := 0, cells := 0, slots := 0, locals := 0 } : Room) (xP s0 (dC, dI) [.ref gr] [(gr, .inr (3, [.ref gc, .int z1, .int z2, .int z3]))]) (xR (some (.int z1))) 0 0 (fun _ => False) := by
  refine Met.ofW (cc := cX3_isMade) (maxL := 1) (ret := (some .boolean)) (by decide) rfl ?_
  intro p e s m args below meth c s₁ B hml hv
  obtain ⟨rfl, hb0, hP⟩ := hv
  have hx := B.exec
  have hb := B.bytes
  have hr := B.returns
  have hown : s.vm.findClass RX3 = some m.cls := findClass_of_methodNamed B.named
  have hlocks := B.notSynchronized
  have hK := h.K hb0
  have hS : va_S (fun _ : Nat => False) s.heap s.heap [] := va_S.rf
  have hz : ∀ q : Nat, (fun _ : Nat => False) q → s0.heap.size ≤ q := fun _ z => z.elim
  have hl := lv_entry ([.ref gr]) (n := 1) (Nat.le_of_ble_eq_true rfl)
  rw [lg_entry_eq]
  generalize (lg_sl ([.ref gr]) ++ List.replicate (1 - (lg_sl ([.ref gr])).length) Slot.unset).toArray = ls at hl ⊢
  have hl : lv_has ls 1 [(0, .ref gr)] := hl
  refine lv_aload_n hx hb dX3_isMade_0 rfl (lv_at hl 0 rfl) ?_
  refine va_get (D := (dC, dI)) (ci := 3) (v := .int z1) (C := RX3) (T := TX3) (N := 4) hx hb (ly_3 h hb0) (fun _ z => z) hown hK hP 0 rfl rfl 1 (by decide) (k_77 h hb0) (fun _ z => z) rfl dX3_isMade_1 ?_
  exact W.zret hx hb hr (xz01 h01) (fun t ht _ => ⟨rfl, ht⟩) (fun q z => nomatch z) dX3_isMade_4
set_option maxHeartbeats 4000000 in
set_option maxRecDepth 100000 in
theorem c_growCount {l : Launch} {s0 : State} {a0 : Array Value} {dC : Nat → ClassId} {dI : Nat → Nat → Nat} {cA : Nat → ClassId} (h : xC l s0 a0 dC dI cA) (gr gc : Nat) (z1 z2 z3 : Int32)  : Met l yX3_rowCount [Cond.code yX3_rowCount cX3_rowCount 1 (some .int)] ({ frames := 0, cells := 0, slots := 0, locals := 0 } : Room) (xP s0 (dC, dI) [.ref gr] [(gr, .inr (3, [.ref gc, .int z1, .int z2, .int z3]))]) (xR (some (.int z2))) 0 0 (fun _ => False) := by
  refine Met.ofW (cc := cX3_rowCount) (maxL := 1) (ret := (some .int)) (by decide) rfl ?_
  intro p e s m args below meth c s₁ B hml hv
  obtain ⟨rfl, hb0, hP⟩ := hv
  have hx := B.exec
  have hb := B.bytes
  have hr := B.returns
  have hown : s.vm.findClass RX3 = some m.cls := findClass_of_methodNamed B.named
  have hlocks := B.notSynchronized
  have hK := h.K hb0
  have hS : va_S (fun _ : Nat => False) s.heap s.heap [] := va_S.rf
  have hz : ∀ q : Nat, (fun _ : Nat => False) q → s0.heap.size ≤ q := fun _ z => z.elim
  have hl := lv_entry ([.ref gr]) (n := 1) (Nat.le_of_ble_eq_true rfl)
  rw [lg_entry_eq]
  generalize (lg_sl ([.ref gr]) ++ List.replicate (1 - (lg_sl ([.ref gr])).length) Slot.unset).toArray = ls at hl ⊢
  have hl : lv_has ls 1 [(0, .ref gr)] := hl
  refine lv_aload_n hx hb dX3_rowCount_0 rfl (lv_at hl 0 rfl) ?_
  refine va_get (D := (dC, dI)) (ci := 3) (v := .int z2) (C := RX3) (T := TX3) (N := 4) hx hb (ly_3 h hb0) (fun _ z => z) hown hK hP 0 rfl rfl 2 (by decide) (k_78 h hb0) (fun _ z => z) rfl dX3_rowCount_1 ?_
  exact W.iret hx hb hr (fun t ht _ => ⟨rfl, ht⟩) (fun q z => nomatch z) dX3_rowCount_4
set_option maxHeartbeats 4000000 in
set_option maxRecDepth 100000 in
theorem c_gcolumnCount {l : Launch} {s0 : State} {a0 : Array Value} {dC : Nat → ClassId} {dI : Nat → Nat → Nat} {cA : Nat → ClassId} (h : xC l s0 a0 dC dI cA) (gr gc : Nat) (z1 z2 z3 : Int32)  : Met l yX3_columnCount [Cond.code yX3_columnCount cX3_columnCount 1 (some .int)] ({ frames := 0, cells := 0, slots := 0, locals := 0 } : Room) (xP s0 (dC, dI) [.ref gr] [(gr, .inr (3, [.ref gc, .int z1, .int z2, .int z3]))]) (xR (some (.int z3))) 0 0 (fun _ => False) := by
  refine Met.ofW (cc := cX3_columnCount) (maxL := 1) (ret := (some .int)) (by decide) rfl ?_
  intro p e s m args below meth c s₁ B hml hv
  obtain ⟨rfl, hb0, hP⟩ := hv
  have hx := B.exec
  have hb := B.bytes
  have hr := B.returns
  have hown : s.vm.findClass RX3 = some m.cls := findClass_of_methodNamed B.named
  have hlocks := B.notSynchronized
  have hK := h.K hb0
  have hS : va_S (fun _ : Nat => False) s.heap s.heap [] := va_S.rf
  have hz : ∀ q : Nat, (fun _ : Nat => False) q → s0.heap.size ≤ q := fun _ z => z.elim
  have hl := lv_entry ([.ref gr]) (n := 1) (Nat.le_of_ble_eq_true rfl)
  rw [lg_entry_eq]
  generalize (lg_sl ([.ref gr]) ++ List.replicate (1 - (lg_sl ([.ref gr])).length) Slot.unset).toArray = ls at hl ⊢
  have hl : lv_has ls 1 [(0, .ref gr)] := hl
  refine lv_aload_n hx hb dX3_columnCount_0 rfl (lv_at hl 0 rfl) ?_
  refine va_get (D := (dC, dI)) (ci := 3) (v := .int z3) (C := RX3) (T := TX3) (N := 4) hx hb (ly_3 h hb0) (fun _ z => z) hown hK hP 0 rfl rfl 3 (by decide) (k_79 h hb0) (fun _ z => z) rfl dX3_columnCount_1 ?_
  exact W.iret hx hb hr (fun t ht _ => ⟨rfl, ht⟩) (fun q z => nomatch z) dX3_columnCount_4
set_option maxHeartbeats 4000000 in
set_option maxRecDepth 100000 in
theorem c_gnumberAt {l : Launch} {s0 : State} {a0 : Array Value} {dC : Nat → ClassId} {dI : Nat → Nat → Nat} {cA : Nat → ClassId} (h : xC l s0 a0 dC dI cA) (gr gc : Nat) (z1 z2 z3 : Int32) (ga : Nat → Nat) (gf : Nat → Int32) (I : Nat) (x : Int32) (hI : I < 8) (hi : vp_in x 8) : Met l yX3_numberAt [Cond.code yX3_numberAt cX3_numberAt 3 (some .int)] ({ frames := 0, cells := 0, slots := 0, locals := 0 } : Room) (xP s0 (dC, dI) [.ref gr, .int (nI I), .int x] [(gr, .inr (3, [.ref gc, .int z1, .int z2, .int z3])), (gc, .inl (cA 9, 8, .inr (.inr (.inr (.inr (fun i => some (ga i))))))), (ga I, .inl (cA 0, 8, .inl gf))]) (xR (some (.int (gf x.toNatClampNeg)))) 0 0 (fun _ => False) := by
  refine Met.ofW (cc := cX3_numberAt) (maxL := 3) (ret := (some .int)) (by decide) rfl ?_
  intro p e s m args below meth c s₁ B hml hv
  obtain ⟨rfl, hb0, hP⟩ := hv
  have hx := B.exec
  have hb := B.bytes
  have hr := B.returns
  have hown : s.vm.findClass RX3 = some m.cls := findClass_of_methodNamed B.named
  have hlocks := B.notSynchronized
  have hK := h.K hb0
  have hS : va_S (fun _ : Nat => False) s.heap s.heap [] := va_S.rf
  have hz : ∀ q : Nat, (fun _ : Nat => False) q → s0.heap.size ≤ q := fun _ z => z.elim
  have hl := lv_entry ([.ref gr, .int (nI I), .int x]) (n := 3) (Nat.le_of_ble_eq_true rfl)
  rw [lg_entry_eq]
  generalize (lg_sl ([.ref gr, .int (nI I), .int x]) ++ List.replicate (3 - (lg_sl ([.ref gr, .int (nI I), .int x])).length) Slot.unset).toArray = ls at hl ⊢
  have hl : lv_has ls 3 [(0, .ref gr), (1, .int (nI I)), (2, .int x)] := hl
  refine lv_aload_n hx hb dX3_numberAt_0 rfl (lv_at hl 0 rfl) ?_
  refine va_get (D := (dC, dI)) (ci := 3) (v := .ref gc) (C := RX3) (T := TX3) (N := 4) hx hb (ly_3 h hb0) (fun _ z => z) hown hK hP 0 rfl rfl 0 (by decide) (k_76 h hb0) (fun _ z => z) rfl dX3_numberAt_1 ?_
  refine lv_iload_n hx hb dX3_numberAt_4 rfl (lv_at hl 1 rfl) ?_
  refine xaldA hx hb hK hP 1 9 rfl rfl (vp_in_nI hI (by decide)) dX3_numberAt_5 ?_
  rw [nI_clamp (Nat.lt_trans hI (by decide))]
  show W _ _ _ _ _ _ _ _ _ _ _ _ _ _ _ (F0 m 6 ls [.ref (ga I)])
  refine lv_iload_n hx hb dX3_numberAt_6 rfl (lv_at hl 2 rfl) ?_
  refine va_iald hx hb hK hP 2 0 rfl rfl hi dX3_numberAt_7 ?_
  exact W.iret hx hb hr (fun t ht _ => ⟨rfl, ht⟩) (fun q z => nomatch z) dX3_numberAt_8
set_option maxHeartbeats 4000000 in
set_option maxRecDepth 100000 in
theorem c_bisMade {l : Launch} {s0 : State} {a0 : Array Value} {dC : Nat → ClassId} {dI : Nat → Nat → Nat} {cA : Nat → ClassId} (h : xC l s0 a0 dC dI cA) (br pl : Nat) (z1 z2 z3 : Int32) (h01 : z1 = 0 ∨ z1 = 1) : Met l yX1_isMade [Cond.code yX1_isMade cX1_isMade 1 (some .boolean)] ({ frames := 0, cells := 0, slots := 0, locals := 0 } : Room) (xP s0 (dC, dI) [.ref br] [(br, .inr (1, [.ref pl, .int z1, .int z2, .int z3]))]) (xR (some (.int z1))) 0 0 (fun _ => False) := by
  refine Met.ofW (cc := cX1_isMade) (maxL := 1) (ret := (some .boolean)) (by decide) rfl ?_
  intro p e s m args below meth c s₁ B hml hv
  obtain ⟨rfl, hb0, hP⟩ := hv
  have hx := B.exec
  have hb := B.bytes
  have hr := B.returns
  have hown : s.vm.findClass RX1 = some m.cls := findClass_of_methodNamed B.named
  have hlocks := B.notSynchronized
  have hK := h.K hb0
  have hS : va_S (fun _ : Nat => False) s.heap s.heap [] := va_S.rf
  have hz : ∀ q : Nat, (fun _ : Nat => False) q → s0.heap.size ≤ q := fun _ z => z.elim
  have hl := lv_entry ([.ref br]) (n := 1) (Nat.le_of_ble_eq_true rfl)
  rw [lg_entry_eq]
  generalize (lg_sl ([.ref br]) ++ List.replicate (1 - (lg_sl ([.ref br])).length) Slot.unset).toArray = ls at hl ⊢
  have hl : lv_has ls 1 [(0, .ref br)] := hl
  refine lv_aload_n hx hb dX1_isMade_0 rfl (lv_at hl 0 rfl) ?_
  refine va_get (D := (dC, dI)) (ci := 1) (v := .int z1) (C := RX1) (T := TX1) (N := 4) hx hb (ly_1 h hb0) (fun _ z => z) hown hK hP 0 rfl rfl 1 (by decide) (k_98 h hb0) (fun _ z => z) rfl dX1_isMade_1 ?_
  exact W.zret hx hb hr (xz01 h01) (fun t ht _ => ⟨rfl, ht⟩) (fun q z => nomatch z) dX1_isMade_4
set_option maxHeartbeats 4000000 in
set_option maxRecDepth 100000 in
theorem c_bplaceCount {l : Launch} {s0 : State} {a0 : Array Value} {dC : Nat → ClassId} {dI : Nat → Nat → Nat} {cA : Nat → ClassId} (h : xC l s0 a0 dC dI cA) (br pl : Nat) (z1 z2 z3 : Int32)  : Met l yX1_placeCount [Cond.code yX1_placeCount cX1_placeCount 1 (some .int)] ({ frames := 0, cells := 0, slots := 0, locals := 0 } : Room) (xP s0 (dC, dI) [.ref br] [(br, .inr (1, [.ref pl, .int z1, .int z2, .int z3]))]) (xR (some (.int z3))) 0 0 (fun _ => False) := by
  refine Met.ofW (cc := cX1_placeCount) (maxL := 1) (ret := (some .int)) (by decide) rfl ?_
  intro p e s m args below meth c s₁ B hml hv
  obtain ⟨rfl, hb0, hP⟩ := hv
  have hx := B.exec
  have hb := B.bytes
  have hr := B.returns
  have hown : s.vm.findClass RX1 = some m.cls := findClass_of_methodNamed B.named
  have hlocks := B.notSynchronized
  have hK := h.K hb0
  have hS : va_S (fun _ : Nat => False) s.heap s.heap [] := va_S.rf
  have hz : ∀ q : Nat, (fun _ : Nat => False) q → s0.heap.size ≤ q := fun _ z => z.elim
  have hl := lv_entry ([.ref br]) (n := 1) (Nat.le_of_ble_eq_true rfl)
  rw [lg_entry_eq]
  generalize (lg_sl ([.ref br]) ++ List.replicate (1 - (lg_sl ([.ref br])).length) Slot.unset).toArray = ls at hl ⊢
  have hl : lv_has ls 1 [(0, .ref br)] := hl
  refine lv_aload_n hx hb dX1_placeCount_0 rfl (lv_at hl 0 rfl) ?_
  refine va_get (D := (dC, dI)) (ci := 1) (v := .int z3) (C := RX1) (T := TX1) (N := 4) hx hb (ly_1 h hb0) (fun _ z => z) hown hK hP 0 rfl rfl 3 (by decide) (k_100 h hb0) (fun _ z => z) rfl dX1_placeCount_1 ?_
  exact W.iret hx hb hr (fun t ht _ => ⟨rfl, ht⟩) (fun q z => nomatch z) dX1_placeCount_4
set_option maxHeartbeats 4000000 in
set_option maxRecDepth 100000 in
theorem c_boxAtPlace {l : Launch} {s0 : State} {a0 : Array Value} {dC : Nat → ClassId} {dI : Nat → Nat → Nat} {cA : Nat → ClassId} (h : xC l s0 a0 dC dI cA) (br pl : Nat) (z1 z2 z3 : Int32) (f : Nat → Option Nat) (x : Int32) (hi : vp_in x 19) : Met l yX1_boxAtPlace [Cond.code yX1_boxAtPlace cX1_boxAtPlace 2 (some (.object "FaultBench$Box"))] ({ frames := 0, cells := 0, slots := 0, locals := 0 } : Room) (xP s0 (dC, dI) [.ref br, .int x] [(br, .inr (1, [.ref pl, .int z1, .int z2, .int z3])), (pl, .inl (cA 8, 19, .inr (.inr (.inr (.inr f)))))]) (xR (some (va_rf (f x.toNatClampNeg)))) 0 0 (fun _ => False) := by
  refine Met.ofW (cc := cX1_boxAtPlace) (maxL := 2) (ret := (some (.object "FaultBench$Box"))) (by decide) rfl ?_
  intro p e s m args below meth c s₁ B hml hv
  obtain ⟨rfl, hb0, hP⟩ := hv
  have hx := B.exec
  have hb := B.bytes
  have hr := B.returns
  have hown : s.vm.findClass RX1 = some m.cls := findClass_of_methodNamed B.named
  have hlocks := B.notSynchronized
  have hK := h.K hb0
  have hS : va_S (fun _ : Nat => False) s.heap s.heap [] := va_S.rf
  have hz : ∀ q : Nat, (fun _ : Nat => False) q → s0.heap.size ≤ q := fun _ z => z.elim
  have hl := lv_entry ([.ref br, .int x]) (n := 2) (Nat.le_of_ble_eq_true rfl)
  rw [lg_entry_eq]
  generalize (lg_sl ([.ref br, .int x]) ++ List.replicate (2 - (lg_sl ([.ref br, .int x])).length) Slot.unset).toArray = ls at hl ⊢
  have hl : lv_has ls 2 [(0, .ref br), (1, .int x)] := hl
  refine lv_aload_n hx hb dX1_boxAtPlace_0 rfl (lv_at hl 0 rfl) ?_
  refine va_get (D := (dC, dI)) (ci := 1) (v := .ref pl) (C := RX1) (T := TX1) (N := 4) hx hb (ly_1 h hb0) (fun _ z => z) hown hK hP 0 rfl rfl 0 (by decide) (k_97 h hb0) (fun _ z => z) rfl dX1_boxAtPlace_1 ?_
  refine lv_iload_n hx hb dX1_boxAtPlace_4 rfl (lv_at hl 1 rfl) ?_
  refine va_aldq hx hb hK hP 1 8 rfl rfl hi dX1_boxAtPlace_5 ?_
  exact W.aret hx hb hr (Or.inl ⟨_, rfl⟩) (va_rf_or _) (fun t ht _ => ⟨rfl, ht⟩) (fun q z => nomatch z) dX1_boxAtPlace_6
set_option maxHeartbeats 4000000 in
set_option maxRecDepth 100000 in
theorem c_takes_n {l : Launch} {s0 : State} {a0 : Array Value} {dC : Nat → ClassId} {dI : Nat → Nat → Nat} {cA : Nat → ClassId} (h : xC l s0 a0 dC dI cA) (br pl : Nat) (z1 z2 z3 : Int32)   : Met l yX1_takes [Cond.code yX1_takes cX1_takes 2 (some .boolean)] ({ frames := 0, cells := 0, slots := 0, locals := 0 } : Room) (xP s0 (dC, dI) [.ref br, .null] [(br, .inr (1, [.ref pl, .int z1, .int z2, .int z3]))]) (xR (some (.int 1))) 0 0 (fun _ => False) := by
  refine Met.ofW (cc := cX1_takes) (maxL := 2) (ret := (some .boolean)) (by decide) rfl ?_
  intro p e s m args below meth c s₁ B hml hv
  obtain ⟨rfl, hb0, hP⟩ := hv
  have hx := B.exec
  have hb := B.bytes
  have hr := B.returns
  have hown : s.vm.findClass RX1 = some m.cls := findClass_of_methodNamed B.named
  have hlocks := B.notSynchronized
  have hK := h.K hb0
  have hS : va_S (fun _ : Nat => False) s.heap s.heap [] := va_S.rf
  have hz : ∀ q : Nat, (fun _ : Nat => False) q → s0.heap.size ≤ q := fun _ z => z.elim
  have hl := lv_entry ([.ref br, .null]) (n := 2) (Nat.le_of_ble_eq_true rfl)
  rw [lg_entry_eq]
  generalize (lg_sl ([.ref br, .null]) ++ List.replicate (2 - (lg_sl ([.ref br, .null])).length) Slot.unset).toArray = ls at hl ⊢
  have hl : lv_has ls 2 [(0, .ref br), (1, .null)] := hl
  refine lv_aload_nN hx hb dX1_takes_0 rfl (lv_at hl 1 rfl) ?_
  refine lv_ifnullN (tgt := 18) hx hb dX1_takes_1 (by decide) ?_
  refine lv_iconst (v := 1) hx hb dX1_takes_18 (by decide) ?_
  refine lv_goto (tgt := 23) hx hb dX1_takes_19 (by decide) ?_
  exact W.zret hx hb hr rfl (fun t ht _ => ⟨rfl, ht⟩) (fun q z => nomatch z) dX1_takes_23
set_option maxHeartbeats 4000000 in
set_option maxRecDepth 100000 in
theorem c_takes_f {l : Launch} {s0 : State} {a0 : Array Value} {dC : Nat → ClassId} {dI : Nat → Nat → Nat} {cA : Nat → ClassId} (h : xC l s0 a0 dC dI cA) (br pl : Nat) (z1 z2 z3 : Int32) (a : Nat) (hd : z2 = 0) : Met l yX1_takes [Cond.code yX1_takes cX1_takes 2 (some .boolean)] ({ frames := 0, cells := 0, slots := 0, locals := 0 } : Room) (xP s0 (dC, dI) [.ref br, .ref a] [(br, .inr (1, [.ref pl, .int z1, .int z2, .int z3]))]) (xR (some (.int 1))) 0 0 (fun _ => False) := by
  refine Met.ofW (cc := cX1_takes) (maxL := 2) (ret := (some .boolean)) (by decide) rfl ?_
  intro p e s m args below meth c s₁ B hml hv
  obtain ⟨rfl, hb0, hP⟩ := hv
  have hx := B.exec
  have hb := B.bytes
  have hr := B.returns
  have hown : s.vm.findClass RX1 = some m.cls := findClass_of_methodNamed B.named
  have hlocks := B.notSynchronized
  have hK := h.K hb0
  have hS : va_S (fun _ : Nat => False) s.heap s.heap [] := va_S.rf
  have hz : ∀ q : Nat, (fun _ : Nat => False) q → s0.heap.size ≤ q := fun _ z => z.elim
  have hl := lv_entry ([.ref br, .ref a]) (n := 2) (Nat.le_of_ble_eq_true rfl)
  rw [lg_entry_eq]
  generalize (lg_sl ([.ref br, .ref a]) ++ List.replicate (2 - (lg_sl ([.ref br, .ref a])).length) Slot.unset).toArray = ls at hl ⊢
  have hl : lv_has ls 2 [(0, .ref br), (1, .ref a)] := hl
  refine lv_aload_n hx hb dX1_takes_0 rfl (lv_at hl 1 rfl) ?_
  refine lv_ifnull hx hb dX1_takes_1 ?_
  refine lv_aload_n hx hb dX1_takes_4 rfl (lv_at hl 0 rfl) ?_
  refine va_get (D := (dC, dI)) (ci := 1) (v := .int z2) (C := RX1) (T := TX1) (N := 4) hx hb (ly_1 h hb0) (fun _ z => z) hown hK hP 0 rfl rfl 2 (by decide) (k_99 h hb0) (fun _ z => z) rfl dX1_takes_5 ?_
  refine lv_if_eq (tgt := 18) hx hb dX1_takes_8 (by decide) (fun c_1 => ?_) (fun c_1 => ?_)
  · refine lv_iconst (v := 1) hx hb dX1_takes_18 (by decide) ?_
    refine lv_goto (tgt := 23) hx hb dX1_takes_19 (by decide) ?_
    exact W.zret hx hb hr rfl (fun t ht _ => ⟨rfl, ht⟩) (fun q z => nomatch z) dX1_takes_23
  · exact absurd hd c_1
set_option maxHeartbeats 4000000 in
set_option maxRecDepth 100000 in
theorem c_takes_d {l : Launch} {s0 : State} {a0 : Array Value} {dC : Nat → ClassId} {dI : Nat → Nat → Nat} {cA : Nat → ClassId} (h : xC l s0 a0 dC dI cA) (br pl : Nat) (z1 z2 z3 : Int32) (a : Nat) (v : Int32) (hd : ¬ z2 = 0) : Met l yX1_takes [Cond.code yX1_takes cX1_takes 2 (some .boolean)] ({ frames := 0, cells := 0, slots := 0, locals := 0 } : Room) (xP s0 (dC, dI) [.ref br, .ref a] [(br, .inr (1, [.ref pl, .int z1, .int z2, .int z3])), (a, .inr (2, [.int v]))]) (xR (some (.int 1))) 0 0 (fun _ => False) := by
  refine Met.ofW (cc := cX1_takes) (maxL := 2) (ret := (some .boolean)) (by decide) rfl ?_
  intro p e s m args below meth c s₁ B hml hv
  obtain ⟨rfl, hb0, hP⟩ := hv
  have hx := B.exec
  have hb := B.bytes
  have hr := B.returns
  have hown : s.vm.findClass RX1 = some m.cls := findClass_of_methodNamed B.named
  have hlocks := B.notSynchronized
  have hK := h.K hb0
  have hS : va_S (fun _ : Nat => False) s.heap s.heap [] := va_S.rf
  have hz : ∀ q : Nat, (fun _ : Nat => False) q → s0.heap.size ≤ q := fun _ z => z.elim
  have hl := lv_entry ([.ref br, .ref a]) (n := 2) (Nat.le_of_ble_eq_true rfl)
  rw [lg_entry_eq]
  generalize (lg_sl ([.ref br, .ref a]) ++ List.replicate (2 - (lg_sl ([.ref br, .ref a])).length) Slot.unset).toArray = ls at hl ⊢
  have hl : lv_has ls 2 [(0, .ref br), (1, .ref a)] := hl
  refine lv_aload_n hx hb dX1_takes_0 rfl (lv_at hl 1 rfl) ?_
  refine lv_ifnull hx hb dX1_takes_1 ?_
  refine lv_aload_n hx hb dX1_takes_4 rfl (lv_at hl 0 rfl) ?_
  refine va_get (D := (dC, dI)) (ci := 1) (v := .int z2) (C := RX1) (T := TX1) (N := 4) hx hb (ly_1 h hb0) (fun _ z => z) hown hK hP 0 rfl rfl 2 (by decide) (k_99 h hb0) (fun _ z => z) rfl dX1_takes_5 ?_
  refine lv_if_eq (tgt := 18) hx hb dX1_takes_8 (by decide) (fun c_1 => ?_) (fun c_1 => ?_)
  · exact absurd c_1 hd
  · refine lv_aload_n hx hb dX1_takes_11 rfl (lv_at hl 1 rfl) ?_
    refine va_instY (C := RX2) hx hb hown (k_397 h hb0) (k_655 h hb0) (va_recv hK hP (ci := 2) (q0 := 1) rfl rfl) dX1_takes_12 ?_
    refine lv_if_eq (tgt := 22) hx hb dX1_takes_15 (by decide) (fun c_2 => ?_) (fun c_2 => ?_)
    · exact absurd c_2 (by decide)
    · refine lv_iconst (v := 1) hx hb dX1_takes_18 (by decide) ?_
      refine lv_goto (tgt := 23) hx hb dX1_takes_19 (by decide) ?_
      exact W.zret hx hb hr rfl (fun t ht _ => ⟨rfl, ht⟩) (fun q z => nomatch z) dX1_takes_23
set_option maxHeartbeats 4000000 in
set_option maxRecDepth 100000 in
theorem c_takes_b {l : Launch} {s0 : State} {a0 : Array Value} {dC : Nat → ClassId} {dI : Nat → Nat → Nat} {cA : Nat → ClassId} (h : xC l s0 a0 dC dI cA) (br pl : Nat) (z1 z2 z3 : Int32) (a : Nat) (v : Int32) (hd : ¬ z2 = 0) : Met l yX1_takes [Cond.code yX1_takes cX1_takes 2 (some .boolean)] ({ frames := 0, cells := 0, slots := 0, locals := 0 } : Room) (xP s0 (dC, dI) [.ref br, .ref a] [(br, .inr (1, [.ref pl, .int z1, .int z2, .int z3])), (a, .inr (0, [.int v]))]) (xR (some (.int 0))) 0 0 (fun _ => False) := by
  refine Met.ofW (cc := cX1_takes) (maxL := 2) (ret := (some .boolean)) (by decide) rfl ?_
  intro p e s m args below meth c s₁ B hml hv
  obtain ⟨rfl, hb0, hP⟩ := hv
  have hx := B.exec
  have hb := B.bytes
  have hr := B.returns
  have hown : s.vm.findClass RX1 = some m.cls := findClass_of_methodNamed B.named
  have hlocks := B.notSynchronized
  have hK := h.K hb0
  have hS : va_S (fun _ : Nat => False) s.heap s.heap [] := va_S.rf
  have hz : ∀ q : Nat, (fun _ : Nat => False) q → s0.heap.size ≤ q := fun _ z => z.elim
  have hl := lv_entry ([.ref br, .ref a]) (n := 2) (Nat.le_of_ble_eq_true rfl)
  rw [lg_entry_eq]
  generalize (lg_sl ([.ref br, .ref a]) ++ List.replicate (2 - (lg_sl ([.ref br, .ref a])).length) Slot.unset).toArray = ls at hl ⊢
  have hl : lv_has ls 2 [(0, .ref br), (1, .ref a)] := hl
  refine lv_aload_n hx hb dX1_takes_0 rfl (lv_at hl 1 rfl) ?_
  refine lv_ifnull hx hb dX1_takes_1 ?_
  refine lv_aload_n hx hb dX1_takes_4 rfl (lv_at hl 0 rfl) ?_
  refine va_get (D := (dC, dI)) (ci := 1) (v := .int z2) (C := RX1) (T := TX1) (N := 4) hx hb (ly_1 h hb0) (fun _ z => z) hown hK hP 0 rfl rfl 2 (by decide) (k_99 h hb0) (fun _ z => z) rfl dX1_takes_5 ?_
  refine lv_if_eq (tgt := 18) hx hb dX1_takes_8 (by decide) (fun c_1 => ?_) (fun c_1 => ?_)
  · exact absurd c_1 hd
  · refine lv_aload_n hx hb dX1_takes_11 rfl (lv_at hl 1 rfl) ?_
    refine va_instNo (C := RX0) hx hb hown (k_397 h hb0) (xNoDisc h hb0) (va_recv hK hP (ci := 0) (q0 := 1) rfl rfl) dX1_takes_12 ?_
    refine lv_if_eq (tgt := 22) hx hb dX1_takes_15 (by decide) (fun c_2 => ?_) (fun c_2 => ?_)
    · refine lv_iconst (v := 0) hx hb dX1_takes_22 (by decide) ?_
      exact W.zret hx hb hr rfl (fun t ht _ => ⟨rfl, ht⟩) (fun q z => nomatch z) dX1_takes_23
    · exact absurd rfl c_2
set_option maxHeartbeats 4000000 in
set_option maxRecDepth 100000 in
theorem c_weightBox {l : Launch} {s0 : State} {a0 : Array Value} {dC : Nat → ClassId} {dI : Nat → Nat → Nat} {cA : Nat → ClassId} (h : xC l s0 a0 dC dI cA) (a : Nat) (v x : Int32)  : Met l yX0_weightWith [Cond.code yX0_weightWith cX0_weightWith 2 (some .int)] ({ frames := 0, cells := 0, slots := 0, locals := 0 } : Room) (xP s0 (dC, dI) [.ref a, .int x] [(a, .inr (0, [.int v]))]) (xR (some (.int (v * 3 + x)))) 0 0 (fun _ => False) := by
  refine Met.ofW (cc := cX0_weightWith) (maxL := 2) (ret := (some .int)) (by decide) rfl ?_
  intro p e s m args below meth c s₁ B hml hv
  obtain ⟨rfl, hb0, hP⟩ := hv
  have hx := B.exec
  have hb := B.bytes
  have hr := B.returns
  have hown : s.vm.findClass RX0 = some m.cls := findClass_of_methodNamed B.named
  have hlocks := B.notSynchronized
  have hK := h.K hb0
  have hS : va_S (fun _ : Nat => False) s.heap s.heap [] := va_S.rf
  have hz : ∀ q : Nat, (fun _ : Nat => False) q → s0.heap.size ≤ q := fun _ z => z.elim
  have hl := lv_entry ([.ref a, .int x]) (n := 2) (Nat.le_of_ble_eq_true rfl)
  rw [lg_entry_eq]
  generalize (lg_sl ([.ref a, .int x]) ++ List.replicate (2 - (lg_sl ([.ref a, .int x])).length) Slot.unset).toArray = ls at hl ⊢
  have hl : lv_has ls 2 [(0, .ref a), (1, .int x)] := hl
  refine lv_aload_n hx hb dX0_weightWith_0 rfl (lv_at hl 0 rfl) ?_
  refine va_get (D := (dC, dI)) (ci := 0) (v := .int v) (C := RX0) (T := TX0) (N := 1) hx hb (ly_0 h hb0) (fun _ z => z) hown hK hP 0 rfl rfl 0 (by decide) (k_378 h hb0) (fun _ z => z) rfl dX0_weightWith_1 ?_
  refine lv_iconst (v := 3) hx hb dX0_weightWith_4 (by decide) ?_
  refine lv_imul hx hb dX0_weightWith_5 ?_
  refine lv_iload_n hx hb dX0_weightWith_6 rfl (lv_at hl 1 rfl) ?_
  refine lv_iadd hx hb dX0_weightWith_7 ?_
  exact W.iret hx hb hr (fun t ht _ => ⟨rfl, ht⟩) (fun q z => nomatch z) dX0_weightWith_8
set_option maxHeartbeats 4000000 in
set_option maxRecDepth 100000 in
theorem c_weightDisc {l : Launch} {s0 : State} {a0 : Array Value} {dC : Nat → ClassId} {dI : Nat → Nat → Nat} {cA : Nat → ClassId} (h : xC l s0 a0 dC dI cA) (a : Nat) (v x : Int32)  : Met l yX2_weightWith [Cond.code yX2_weightWith cX2_weightWith 2 (some .int)] ({ frames := 0, cells := 0, slots := 0, locals := 0 } : Room) (xP s0 (dC, dI) [.ref a, .int x] [(a, .inr (2, [.int v]))]) (xR (some (.int (v * 5 - x)))) 0 0 (fun _ => False) := by
  refine Met.ofW (cc := cX2_weightWith) (maxL := 2) (ret := (some .int)) (by decide) rfl ?_
  intro p e s m args below meth c s₁ B hml hv
  obtain ⟨rfl, hb0, hP⟩ := hv
  have hx := B.exec
  have hb := B.bytes
  have hr := B.returns
  have hown : s.vm.findClass RX2 = some m.cls := findClass_of_methodNamed B.named
  have hlocks := B.notSynchronized
  have hK := h.K hb0
  have hS : va_S (fun _ : Nat => False) s.heap s.heap [] := va_S.rf
  have hz : ∀ q : Nat, (fun _ : Nat => False) q → s0.heap.size ≤ q := fun _ z => z.elim
  have hl := lv_entry ([.ref a, .int x]) (n := 2) (Nat.le_of_ble_eq_true rfl)
  rw [lg_entry_eq]
  generalize (lg_sl ([.ref a, .int x]) ++ List.replicate (2 - (lg_sl ([.ref a, .int x])).length) Slot.unset).toArray = ls at hl ⊢
  have hl : lv_has ls 2 [(0, .ref a), (1, .int x)] := hl
  refine lv_aload_n hx hb dX2_weightWith_0 rfl (lv_at hl 0 rfl) ?_
  refine va_get (D := (dC, dI)) (ci := 2) (v := .int v) (C := RX2) (T := TX2) (N := 1) hx hb (ly_2 h hb0) (fun _ z => z) hown hK hP 0 rfl rfl 0 (by decide) (k_379 h hb0) (u_same (args := #[]) (k_380 h hb0)) rfl dX2_weightWith_1 ?_
  refine lv_iconst (v := 5) hx hb dX2_weightWith_4 (by decide) ?_
  refine lv_imul hx hb dX2_weightWith_5 ?_
  refine lv_iload_n hx hb dX2_weightWith_6 rfl (lv_at hl 1 rfl) ?_
  refine lv_isub hx hb dX2_weightWith_7 ?_
  exact W.iret hx hb hr (fun t ht _ => ⟨rfl, ht⟩) (fun q z => nomatch z) dX2_weightWith_8
set_option maxHeartbeats 4000000 in
set_option maxRecDepth 100000 in
theorem c_rolled {l : Launch} {s0 : State} {a0 : Array Value} {dC : Nat → ClassId} {dI : Nat → Nat → Nat} {cA : Nat → ClassId} (h : xC l s0 a0 dC dI cA) (a : Nat) (v x : Int32)  : Met l yX2_rolledWith [Cond.code yX2_rolledWith cX2_rolledWith 2 (some .int)] ({ frames := 0, cells := 0, slots := 0, locals := 0 } : Room) (xP s0 (dC, dI) [.ref a, .int x] [(a, .inr (2, [.int v]))]) (xR (some (.int (v ^^^ x)))) 0 0 (fun _ => False) := by
  refine Met.ofW (cc := cX2_rolledWith) (maxL := 2) (ret := (some .int)) (by decide) rfl ?_
  intro p e s m args below meth c s₁ B hml hv
  obtain ⟨rfl, hb0, hP⟩ := hv
  have hx := B.exec
  have hb := B.bytes
  have hr := B.returns
  have hown : s.vm.findClass RX2 = some m.cls := findClass_of_methodNamed B.named
  have hlocks := B.notSynchronized
  have hK := h.K hb0
  have hS : va_S (fun _ : Nat => False) s.heap s.heap [] := va_S.rf
  have hz : ∀ q : Nat, (fun _ : Nat => False) q → s0.heap.size ≤ q := fun _ z => z.elim
  have hl := lv_entry ([.ref a, .int x]) (n := 2) (Nat.le_of_ble_eq_true rfl)
  rw [lg_entry_eq]
  generalize (lg_sl ([.ref a, .int x]) ++ List.replicate (2 - (lg_sl ([.ref a, .int x])).length) Slot.unset).toArray = ls at hl ⊢
  have hl : lv_has ls 2 [(0, .ref a), (1, .int x)] := hl
  refine lv_aload_n hx hb dX2_rolledWith_0 rfl (lv_at hl 0 rfl) ?_
  refine va_get (D := (dC, dI)) (ci := 2) (v := .int v) (C := RX2) (T := TX2) (N := 1) hx hb (ly_2 h hb0) (fun _ z => z) hown hK hP 0 rfl rfl 0 (by decide) (k_379 h hb0) (u_same (args := #[]) (k_380 h hb0)) rfl dX2_rolledWith_1 ?_
  refine lv_iload_n hx hb dX2_rolledWith_4 rfl (lv_at hl 1 rfl) ?_
  refine lv_ixor hx hb dX2_rolledWith_5 ?_
  exact W.iret hx hb hr (fun t ht _ => ⟨rfl, ht⟩) (fun q z => nomatch z) dX2_rolledWith_6
