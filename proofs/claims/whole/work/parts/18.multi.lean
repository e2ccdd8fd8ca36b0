/-! 'new int[8][8]': the outer array at q, its rows behind it. -/
def xq_o (cG : ClassId) (h i : Nat) : Cell := arrV cG 8 (fun j => va_rf (if j < i then some (h + 1 + j) else none))
def xq_r (cI : ClassId) : Cell := arrV cI 8 (fun _ => .int 0)
def xq_f (T : State) (cG cI : ClassId) : Nat → State
  | 0 => T.pushCell (xq_o cG T.heap.size 0)
  | i + 1 => ((xq_f T cG cI i).pushCell (xq_r cI)).setCell T.heap.size (xq_o cG T.heap.size (i + 1))
theorem xq_next (cG : ClassId) (h i : Nat) : (xq_o cG h i).setSlot i (.ref (h + 1 + i)) = xq_o cG h (i + 1) := by
  unfold xq_o
  rw [arrV_store]
  refine congrArg (arrV cG 8) (funext fun j => ?_)
  by_cases e : j = i
  · rw [e]; simp [updV, va_rf]
  · by_cases g : j < i
    · simp [updV, e, g, show j < i + 1 by omega]
    · simp [updV, e, g, show ¬ j < i + 1 by omega]
theorem xq_facts (T : State) (cG cI : ClassId) : ∀ i, (xq_f T cG cI i).heap.size = T.heap.size + 1 + i ∧ (xq_f T cG cI i).heap[T.heap.size]? = some (xq_o cG T.heap.size i) ∧ (xq_f T cG cI i).vm = T.vm ∧ (xq_f T cG cI i).slotsUsed = T.slotsUsed + 8 + i * 8 ∧
    (∀ a, a < T.heap.size → (xq_f T cG cI i).heap[a]? = T.heap[a]?) ∧ ∀ j, j < i → (xq_f T cG cI i).heap[T.heap.size + 1 + j]? = some (xq_r cI)
  | 0 => ⟨by simp [xq_f], by simp [xq_f], rfl, by simp [xq_f, xq_o, arrV_size], fun a ha => State.heap_pushCell_of_lt _ _ ha, fun j hj => absurd hj (Nat.not_lt_zero _)⟩
  | i + 1 => by
    obtain ⟨h1, h2, h3, h4, h5, h6⟩ := xq_facts T cG cI i
    have hlt : ∀ a, a < T.heap.size + 1 + i → a < (xq_f T cG cI i).heap.size := fun a h => by rw [h1]; exact h
    have hp : ((xq_f T cG cI i).pushCell (xq_r cI)).heap[T.heap.size]? = some (xq_o cG T.heap.size i) := by rw [State.heap_pushCell_of_lt (h := hlt _ (by omega))]; exact h2
    refine ⟨?_, State.heap_setCell_self hp, by simp [xq_f, h3], ?_, fun a ha => ?_, fun j hj => ?_⟩
    · simp [xq_f, State.setCell, h1]; omega
    · simp [xq_f, h4, xq_r, arrV_size]; omega
    · show (((xq_f T cG cI i).pushCell (xq_r cI)).setCell T.heap.size _).heap[a]? = _
      rw [State.heap_setCell_other (Nat.ne_of_gt ha), State.heap_pushCell_of_lt (h := hlt _ (by omega))]
      exact h5 a ha
    · show (((xq_f T cG cI i).pushCell (xq_r cI)).setCell T.heap.size _).heap[T.heap.size + 1 + j]? = _
      rw [State.heap_setCell_other (show T.heap.size ≠ T.heap.size + 1 + j by omega)]
      by_cases hji : j < i
      · rw [State.heap_pushCell_of_lt (h := hlt _ (by omega))]
        exact h6 j hji
      · have he : j = i := by omega
        rw [he, ← h1]
        exact State.heap_pushCell_size _ _
theorem xq_top (T : State) (f : JFrame) (cG cI : ClassId) : ∀ i, xq_f (T.setTop f) cG cI i = (xq_f T cG cI i).setTop f
  | 0 => rfl
  | i + 1 => by simp only [xq_f, xq_top T f cG cI i, State.heap_setTop, State.pushCell_setTop, State.setCell_setTop]
section XQW
variable {E : CtlPost} {e : Env} {d : Bool} {acts : List Action} {s : State}
theorem xq_in {cI cc : ClassId} {kI : Class} (hk : s.vm.classes[cI]? = some kI) (hkind : kI.kind = .array cc .int) (hl : 8 ≤ e.platform.arrayLengthLimit) (hh : 32 ≤ e.platform.maxHeapBytes) (h1 : s.heap.size < e.platform.maxCells) (h2 : s.slotsUsed + 8 ≤ e.platform.maxSlots)
    {Q : Addr → Pre} (hq : ∀ acts', Q s.heap.size d acts' (s.pushCell (xq_r cI))) : wp (Op.multianewarray.make cI [8]) Q E e d acts s := by
  rw [Op.multianewarray.make]
  simp only [wp_bind', W.ite, show ¬ (8 : Int32) < 0 by decide, if_false, wp_pure', W.theClass, hk, hkind, Option.some.injEq, exists_eq_left']
  refine W.newArray_of hk hkind (by show ¬ 8 > _; omega) (by show ¬ 8 * 4 > _; omega) h1 h2 rfl (fun acts' => ?_)
  have := hq acts'
  rw [xq_r, ← arrV_new] at this
  exact this
set_option maxHeartbeats 1000000 in
theorem xq_mk {cG cI cc : ClassId} {kG kI : Class} (hkG : s.vm.classes[cG]? = some kG) (hkindG : kG.kind = .array cI (.array .int)) (hkI : s.vm.classes[cI]? = some kI) (hkindI : kI.kind = .array cc .int) (hl : 8 ≤ e.platform.arrayLengthLimit) (hh : 32 ≤ e.platform.maxHeapBytes)
    (h1 : s.heap.size + 9 ≤ e.platform.maxCells) (h2 : s.slotsUsed + 72 ≤ e.platform.maxSlots) {Q : Addr → Pre} (hq : ∀ d' acts', Q s.heap.size d' acts' (xq_f s cG cI 8)) : wp (Op.multianewarray.make cG [8, 8]) Q E e d acts s := by
  rw [Op.multianewarray.make]
  simp only [wp_bind', W.ite, show ¬ (8 : Int32) < 0 by decide, if_false, wp_pure', W.theClass, hkG, hkindG, Option.some.injEq, exists_eq_left']
  refine W.newArray_of hkG hkindG (by show ¬ 8 > _; omega) (by show ¬ 8 * 4 > _; omega) (by omega) (by show s.slotsUsed + 8 ≤ _; omega) rfl (fun acts' => ?_)
  have h0 : s.pushCell { cls := cG, slots := Array.replicate (8 : Int32).toNatClampNeg Value.null } = xq_f s cG cI 0 := by
    show s.pushCell { cls := cG, slots := Array.replicate 8 Value.null, vm := .none } = _
    rw [arrV_new]
    rfl
  rw [h0]
  simp only [show ([(8 : Int32)].find? (· < 0)) = none from by decide]
  rw [ite_self, wp_bind', Std.Legacy.Range.forIn_eq_forIn_range']
  have hsz : ([:(8 : Int32).toNatClampNeg] : Std.Legacy.Range).size = 8 := by decide
  rw [hsz]
  show wp (forIn (List.range' 0 8 1) PUnit.unit _) _ E e d acts' _
  refine wp_forIn_inv (fun rest s' => ∃ i, i ≤ 8 ∧ rest = List.range' i (8 - i) ∧ s' = xq_f s cG cI i) _ _ ⟨0, Nat.zero_le _, rfl, rfl⟩ ?_ ?_
  · rintro x rest s' d' acts2 Q' ⟨i, hi, hl2, rfl⟩ hnext
    have hlt : i < 8 := by
      rcases Nat.lt_or_ge i 8 with h | h
      · exact h
      · rw [show 8 - i = 0 by omega] at hl2; simp at hl2
    rw [show 8 - i = (8 - (i + 1)) + 1 by omega, List.range'_succ] at hl2
    obtain ⟨rfl, hrest⟩ := List.cons.inj hl2
    obtain ⟨f1, f2, f3, f4, -, -⟩ := xq_facts s cG cI x
    simp only [wp_bind']
    refine xq_in (by rw [f3]; exact hkI) hkindI hl hh (by rw [f1]; omega) (by rw [f4]; omega) (fun acts3 => ?_)
    have hlt0 : s.heap.size < (xq_f s cG cI x).heap.size := by rw [f1]; omega
    simp only [wp_bind', W.writeLoc, wp_pure']
    refine ⟨xq_o cG s.heap.size x, by rw [State.heap_pushCell_of_lt (h := hlt0)]; exact f2, by simp [xq_o, arrV], by rw [xq_o, arrV_size]; exact hlt, ?_, hnext _ _ _ ⟨x + 1, hlt, hrest, ?_⟩⟩
    · simp [xq_o, arrV, State.fitsSlot, State.slotType?, f3, hkG, hkindG, fits]
    · rw [f1, xq_next]; rfl
  · rintro s' d' acts2 ⟨i, hi, hl2, rfl⟩
    have he : i = 8 := by
      rcases Nat.lt_or_ge i 8 with h | h
      · rw [show 8 - i = (8 - (i + 1)) + 1 by omega, List.range'_succ] at hl2; cases hl2
      · omega
    rw [he]
    simp only [wp_pure']
    exact hq _ _
end XQW
/-- the rows of a grid: row i at ga i holds M i -/
def rws (cI : ClassId) (ga : Nat → Nat) (M : Nat → Nat → Int32) : va_W := (List.range 8).map (fun i => (ga i, .inl (cI, 8, .inl (M i))))
def mset (M : Nat → Nat → Int32) (i j : Nat) (v : Int32) : Nat → Nat → Int32 := fun a b => if a = i ∧ b = j then v else M a b
theorem mset_row (M : Nat → Nat → Int32) (i j : Nat) (v : Int32) : upd (M i) j v = mset M i j v i := by
  funext b
  by_cases h : b = j <;> simp [upd, mset, h]
theorem rws_get {cI : ClassId} {ga : Nat → Nat} {M : Nat → Nat → Int32} {X : va_W} {i n : Nat} (hn : X.length = n) (h : i < 8) : (X ++ rws cI ga M)[n + i]? = some (ga i, .inl (cI, 8, .inl (M i))) := by
  rw [List.getElem?_append_right (by omega), show n + i - X.length = i by omega]
  simp [rws, h]
theorem rws_set {cI : ClassId} {ga : Nat → Nat} {M : Nat → Nat → Int32} {X : va_W} {i j n : Nat} {v : Int32} (hn : X.length = n) (h : i < 8) : (X ++ rws cI ga M).set (n + i) (ga i, .inl (cI, 8, .inl (upd (M i) j v))) = X ++ rws cI ga (mset M i j v) := by
  rw [List.set_append_right _ _ (by omega), show n + i - X.length = i by omega]
  congr 1
  apply List.ext_getElem
  · simp [rws]
  · intro k h1 h2
    rw [List.getElem_set]
    simp only [rws, List.getElem_map, List.getElem_range]
    by_cases e : i = k
    · rw [if_pos e, ← e, mset_row]
    · rw [if_neg e]
      have : mset M i j v k = M k := by funext b; simp [mset, show ¬ k = i from fun q => e q.symm]
      rw [this]
theorem arrV_congr {cI : ClassId} {N : Nat} {f g : Nat → Value} (h : ∀ j, j < N → f j = g j) : arrV cI N f = arrV cI N g := by
  unfold arrV
  congr 2
  funext j
  exact h j.val j.isLt
theorem xRA_eq {U : State} {c1 c2 : ClassId} {ty : FieldType} (h1 : va_RA U c1 ty) (h2 : va_RA U c2 ty) : c1 = c2 := by
  cases ty with
  | object C =>
    obtain ⟨-, -, -, -, -, h1⟩ := h1
    obtain ⟨-, -, -, -, -, h2⟩ := h2
    exact Option.some.inj (h1.symm.trans h2)
  | _ => exact Option.some.inj (h1.symm.trans h2)
theorem xq_over {args : Array Value} {s : State} {t : FieldType} (h : (Cond.arrayOver (.array t)).before args s = true) : ∃ comp c k, s.vm.findClass (FieldType.array t).toString = some comp ∧ s.vm.classes[c]? = some k ∧ k.kind = .array comp (.array t) ∧ s.vm.findClass ("[" ++ (FieldType.array t).toString) = some c := by
  simp only [Cond.before, Cond.holds, Cond.value, beq_iff_eq] at h
  cases hc : s.vm.findClass (FieldType.array t).toString with
  | none => simp [hc] at h
  | some comp =>
    simp only [hc, Option.bind_some, Option.bind_eq_some_iff, Option.map_eq_some_iff] at h
    obtain ⟨c, hi, k, hk, hb⟩ := h
    obtain ⟨hlt, hp, -⟩ := Array.findIdx?_eq_some_iff_getElem.mp hi
    have hkk : s.vm.classes[c] = k := (Array.getElem?_eq_some_iff.mp hk).2
    rw [hkk] at hp
    cases hkind : k.kind with
    | array component ty =>
      rw [hkind] at hb hp
      simp at hb hp
      exact ⟨comp, c, k, rfl, hk, by rw [hkind, hp, hb.1], hb.2⟩
    | _ => rw [hkind] at hb; simp at hb
section XQR
variable {p : Program} {l : Launch} {e : Env} {R : Room} {s : State} {m : MethodId} {args : Array Value} {below : List Frame} {meth : Method} {c : Code} {H : Heap} {locs : List Loc} {cells slots : Nat} {Q : State → Prop}
theorem xq_stand {T : State} (X : Stand p l e R s m args below meth c T locs cells slots) (cG cI : ClassId) : ∀ i, Stand p l e R s m args below meth c (xq_f T cG cI i) locs (cells + 1 + i) (slots + 8 + i * 8)
  | 0 => by
    have h := X.pushed (xq_o cG T.heap.size 0)
    rw [show (xq_o cG T.heap.size 0).slots.size = 8 from arrV_size _ _ _] at h
    simpa [xq_f] using h
  | i + 1 => by
    have Xi := xq_stand X cG cI i
    obtain ⟨f1, f2, -, -, -, -⟩ := xq_facts T cG cI i
    have hlt0 : T.heap.size < (xq_f T cG cI i).heap.size := by rw [f1]; omega
    have hcell : ((xq_f T cG cI i).pushCell (xq_r cI)).heap[T.heap.size]? = some (xq_o cG T.heap.size i) := by rw [State.heap_pushCell_of_lt (h := hlt0)]; exact f2
    have h := (Xi.pushed (xq_r cI)).stored hcell i (.ref (T.heap.size + 1 + i))
    rw [show (xq_r cI).slots.size = 8 from arrV_size _ _ _, xq_next] at h
    have h2 := h.forget (fun y hy => by
      rw [List.mem_singleton] at hy
      rw [hy]
      exact X.same.2.1)
    rw [show slots + 8 + (i + 1) * 8 = slots + 8 + i * 8 + 8 by omega]
    exact h2
variable {cc : ByteArray} {pc : Nat} {ls : Array Slot} {rest : List Value} {D : va_G} {A : Nat → Prop} {tys : List (ClassId × FieldType)} {ws : va_W} {H0 : Heap}
set_option maxHeartbeats 1000000 in
theorem xmulti (hexec : p.tables.exec = Jvm.exec) (hb : c.code = cc) {own : String} {index t0 t1 : Nat} {cI cG : ClassId} (hown : s.vm.findClass own = some m.cls) (hclink : (Cond.classLink own index "[[I").before args s = true) (hover : ∃ comp c k, s.vm.findClass (FieldType.array .int).toString = some comp ∧ s.vm.classes[c]? = some k ∧ k.kind = .array comp (.array .int) ∧ s.vm.findClass ("[" ++ (FieldType.array .int).toString) = some c) (harr : (Cond.arrayClass .int).before args s = true)
    (hK : va_K D vwCl tys s) (ht0 : tys[t0]? = some (cI, .int)) (ht1 : tys[t1]? = some (cG, .array .int)) (hP : va_P D vwCl ws H) (hD : va_D A ws) (hS : va_S A H0 H locs) (hA : ∀ q, H0.size ≤ q → A q)
    (hcells : cells + 9 ≤ R.cells) (hslots : slots + 72 ≤ R.slots) (hdg : decode cc pc = .ok (.multianewarray index 2, 4))
    (kk : ∀ (q : Nat) (ga : Nat → Nat) (H1 : Heap), va_P D vwCl ((ws ++ [(q, .inl (cG, 8, .inr (.inr (.inr (.inr (fun i => some (ga i)))))))]) ++ rws cI ga (fun _ _ => 0)) H1 → va_D A ((ws ++ [(q, .inl (cG, 8, .inr (.inr (.inr (.inr (fun i => some (ga i)))))))]) ++ rws cI ga (fun _ _ => 0)) → va_S A H0 H1 locs →
      W p l e R s m args below meth c H1 locs (cells + 9) (slots + 72) Q (F0 m (pc + 4) ls (.ref q :: rest))) : W p l e R s m args below meth c H locs cells slots Q (F0 m pc ls (.int 8 :: .int 8 :: rest)) := by
  intro T hT X
  subst hb
  have hpl : e.platform.magicAccessors = ({} : Platform).magicAccessors := by rw [X.admits.platform]
  obtain ⟨comp, cG', kG, hcomp, hkG, hkindG, hnG⟩ := hover
  obtain ⟨comp', kI, ci, hcomp', hkI, hkindI⟩ := Cond.arrayClass_spec harr
  have ec : comp' = comp := Option.some.inj (hcomp'.symm.trans hcomp)
  subst ec
  have e0 : cI = comp' := Option.some.inj ((show s.vm.findClass ("[" ++ FieldType.int.toString) = some cI from (hK.2 t0 _ ht0).2).symm.trans hcomp')
  have e1 : cG = cG' := Option.some.inj ((show s.vm.findClass ("[" ++ (FieldType.array .int).toString) = some cG from (hK.2 t1 _ ht1).2).symm.trans hnG)
  subst e0
  subst e1
  obtain ⟨c0, hfc0, hcl⟩ := Cond.classLink_spec hown hclink e.platform hpl
  cases Option.some.inj ((show s.vm.findClass "[[I" = some cG from hnG).symm.trans hfc0)
  obtain ⟨hg₁, hwarm₁, hready₁⟩ := State.classEntry (e := e) X.warmed hcl
  generalize T.vm.noted m.cls index (.cls cG) = vm₁ at hg₁ hwarm₁ hready₁
  have hal : s.vm.Alike vm₁ := hwarm₁.alike
  obtain ⟨kG₁, hkG₁, heG⟩ := hal.2.2 _ _ hkG
  obtain ⟨kI₁, hkI₁, heI⟩ := hal.2.2 _ _ hkI
  have X₁ := X.noted hwarm₁
  obtain ⟨hr1, hr2⟩ := X.roomAbove hcells hslots
  have XF := xq_stand X₁ cG cI 8
  obtain ⟨f1, f2, -, -, f5, f6⟩ := xq_facts (T.setVm vm₁) cG cI 8
  have hTh : (T.setVm vm₁).heap = H := hT
  rw [hTh] at f1 f2 f5 f6
  have hP1 : va_P D vwCl ((ws ++ [(H.size, .inl (cG, 8, .inr (.inr (.inr (.inr (fun i => some (H.size + 1 + i)))))))]) ++ rws cI (fun i => H.size + 1 + i) (fun _ _ => 0)) (xq_f (T.setVm vm₁) cG cI 8).heap := by
    refine ((hP.kept (fun k x hx => f5 x.1 (hP k x hx).lt)).app (fun k x hx => ?_)).app (fun k x hx => ?_)
    · have h0 : k < 1 := (List.getElem?_eq_some_iff.mp hx).1
      rw [show k = 0 by omega] at hx
      cases hx
      show (xq_f (T.setVm vm₁) cG cI 8).heap[H.size]? = some (vp_cell cG (8, .inr (.inr (.inr (.inr (fun i => some (H.size + 1 + i)))))))
      rw [f2, vp_cell_q]
      exact congrArg some (arrV_congr (fun j hj => by simp [hj]))
    · obtain ⟨i, hi, rfl⟩ := List.mem_map.mp (List.mem_of_getElem? hx)
      exact f6 i (List.mem_range.mp hi)
  have hD1 : va_D A ((ws ++ [(H.size, .inl (cG, 8, .inr (.inr (.inr (.inr (fun i => some (H.size + 1 + i)))))))]) ++ rws cI (fun i => H.size + 1 + i) (fun _ _ => 0)) := by
    refine va_D.app (hD.push hP rfl (hA _ hS.1)) ⟨fun i j x y hi hj hxy => ?_, fun k x hx => ?_⟩ (fun i j x y hi hj hxy => ?_)
    · have hi8 : i < 8 := by have := (List.getElem?_eq_some_iff.mp hi).1; simpa [rws] using this
      have hj8 : j < 8 := by have := (List.getElem?_eq_some_iff.mp hj).1; simpa [rws] using this
      simp [rws, hi8] at hi
      simp [rws, hj8] at hj
      rw [← hi, ← hj] at hxy
      have hxy : H.size + 1 + i = H.size + 1 + j := hxy
      omega
    · obtain ⟨i, -, rfl⟩ := List.mem_map.mp (List.mem_of_getElem? hx)
      exact hA _ (by have := hS.1; show H0.size ≤ H.size + 1 + i; omega)
    · obtain ⟨i2, -, rfl⟩ := List.mem_map.mp (List.mem_of_getElem? hj)
      have hxy : x.1 = H.size + 1 + i2 := hxy
      rcases List.mem_append.mp (List.mem_of_getElem? hi) with h | h
      · obtain ⟨k, hk⟩ := List.getElem?_of_mem h
        have := (hP k x hk).lt
        omega
      · rw [List.mem_singleton] at h
        rw [h] at hxy
        have hxy : H.size = H.size + 1 + i2 := hxy
        omega
  obtain ⟨t, a1, b1⟩ := kk H.size (fun i => H.size + 1 + i) (xq_f (T.setVm vm₁) cG cI 8).heap hP1 hD1 ⟨by rw [f1]; have := hS.1; omega, fun x h1 h2 => (f5 x (Nat.lt_of_lt_of_le h1 hS.1)).trans (hS.2.1 x h1 h2), hS.2.2⟩ (xq_f (T.setVm vm₁) cG cI 8) rfl (by simpa [Nat.add_assoc] using XF)
  refine ⟨t, ?_, b1⟩
  jvm_step X.here [hexec, hdg]
  simp only [Op.multianewarray.sem, wp_bind', W.resolveClassAt_links (State.method?_setTop (F0 m pc ls (.int 8 :: .int 8 :: rest)) X.here.top) hg₁]
  rw [W.popN, if_neg (by decide)]
  refine ⟨F0 m pc ls (.int 8 :: .int 8 :: rest), State.topJava?_setTop' (s := T.setVm vm₁) _ X.here.top, [.int 8, .int 8], rest, rfl, rfl, ?_⟩
  simp only [List.mapM_cons, List.mapM_nil, wp_bind', wp_pure']
  refine xq_mk (kG := kG₁) (kI := kI₁) (cI := cI) (cc := ci) hkG₁ (by rw [heG]; exact hkindG) hkI₁ (by rw [heI]; exact hkindI) (by rw [Launch.admits_arrayLengthLimit X.admits]; decide) (by rw [Launch.admits_maxHeapBytes X.admits]; decide) (by show T.heap.size + 9 ≤ _; omega) (by show T.slotsUsed + 72 ≤ _; omega) (fun d' acts' => ?_)
  have eS : ((T.setTop (F0 m pc ls (.int 8 :: .int 8 :: rest))).setVm vm₁).setTop { (F0 m pc ls (.int 8 :: .int 8 :: rest)) with stack := rest } = (T.setVm vm₁).setTop { (F0 m pc ls (.int 8 :: .int 8 :: rest)) with stack := rest } := by
    show ((T.setVm vm₁).setTop _).setTop _ = _
    rw [State.setTop_setTop]
  rw [eS, xq_top]
  simp only [wp_bind', W.mark, W.pushRef, State.topJava?_setTop' _ XF.here.top, Option.some.injEq, exists_eq_left', State.setTop_setTop, State.heap_setTop]
  intro acts
  simp [jvm, XF.here.top]
  have e9 : T.heap.size = H.size := by rw [hT]
  rw [e9]
  exact a1
end XQR
