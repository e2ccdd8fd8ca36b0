/-! 'throw new NullPointerException("text")': its own fillInStackTrace stands between Throwable's constructor and Throwable's fillInStackTrace. No traces are kept. The rows follow the library's for the plain constructors (ColdThrowSV, ColdThrowSWholeV, StandCtorColdV, BundleOwnThrow) and for the machine's own throw (ColdNpeV). -/
theorem xn_mono (vm : Vm) : ∀ (n : Nat) (a b : ClassId), vm.isSubclassAux n a b = true → vm.isSubclassAux (n + 1) a b = true
  | 0, a, b, h => by simp [Vm.isSubclassAux] at h
  | n + 1, a, b, h => by
    rw [Vm.isSubclassAux, Bool.or_eq_true] at h
    rw [Vm.isSubclassAux, Bool.or_eq_true]
    rcases h with h | h
    · exact Or.inl h
    · refine Or.inr ?_
      cases hk : vm.classes[a]? with
      | none => simp [hk] at h
      | some k =>
        simp only [hk] at h ⊢
        cases hs : k.super with
        | none => simp [hs] at h
        | some q =>
          simp only [hs] at h ⊢
          exact xn_mono vm n q b h
theorem xn_cast {s : State} {args : Array Value} (h1 : (Cond.lays Bundle.nN Bundle.tN "cause" "Ljava/lang/Throwable;").before args s = true) (h2 : (Cond.superclass Bundle.nN Bundle.rN).before args s = true) (h3 : (Cond.superclass Bundle.tN "java/lang/Object").before args s = true) : (Cond.castable Bundle.rN Bundle.tN).before args s = true := by
  obtain ⟨c, k, cT, kf, fi, fd, r1, r2, hi, -, -, hasg, -⟩ := Cond.lays_spec h1
  have hcT : s.vm.findClass Bundle.tN = some cT := Cond.lays_declared h1 hi
  obtain ⟨cR, k2, kR, hcR, hk2, hkR, hsup, hord, hordR, -⟩ := Cond.superclass_spec r1 h2
  cases r2.symm.trans hk2
  obtain ⟨cO, kT, kO, -, hkT, -, -, hordT, -, hniT⟩ := Cond.superclass_spec hcT h3
  have hsub : s.vm.isSubclass c cT = true := isSubclass_of_assignable r2 hkT hord hordT hniT hasg
  have hne : ¬ c = cT := by
    intro he
    obtain ⟨ka, ha, hna⟩ := Vm.findClass_spec r1
    obtain ⟨kb, hb, hnb⟩ := Vm.findClass_spec hcT
    rw [he] at ha
    cases ha.symm.trans hb
    exact absurd (hna.symm.trans hnb) (by decide)
  have hR : s.vm.isSubclass cR cT = true := by
    rw [Vm.isSubclass, Vm.isSubclassAux, Bool.or_eq_true] at hsub
    rcases hsub with z | z
    · exact absurd (by simpa using z) hne
    · simp only [r2, hsup] at z
      exact xn_mono _ _ _ _ z
  have hA : s.vm.assignable cR cT = true := by
    unfold Vm.assignable
    rw [Vm.assignableAux, Bool.or_eq_true]
    exact Or.inr (by simp [hkR, hkT, hordR, hordT, hniT, hR])
  simp [Cond.before, Cond.holds, Cond.value, hcR, hcT, hA]
section XNF
variable {self : Addr}
theorem xn_rooms {e : Env} {V : State} {g : JFrame} (htop : V.topJava?.isSome) (T : ThrowableC) (N : NpeC) (y : Cell) {lim : Nat × Nat} (hlim : e.platform.stackLimits V.me = lim) {t : ThreadId} (hframes : V.frames.length + 2 < lim.1) (hwords : (stackUse (.java g :: V.frames.tail)).2 + 43 ≤ lim.2) :
    e.platform.stackFull (((V.setTop g).threads[(V.setTop g).cur]?).getD { frames := [] }) (V.setTop g).frames (1 + 2) = false ∧
    e.platform.stackFull ((((npeInside V g N.toNpeT self y).setTop (fillJ N.fill self 37 [])).threads[((npeInside V g N.toNpeT self y).setTop (fillJ N.fill self 37 [])).cur]?).getD { frames := [] }) ((npeInside V g N.toNpeT self y).setTop (fillJ N.fill self 37 [])).frames (1 + 2) = false ∧
    e.platform.stackFull ((((fillInside (npeInside V g N.toNpeT self y) (fillJ N.fill self 37 []) T.fill self (npeCell N.toNpeT y t)).setTop (fillJ T.fill self 16 [])).threads[((fillInside (npeInside V g N.toNpeT self y) (fillJ N.fill self 37 []) T.fill self (npeCell N.toNpeT y t)).setTop (fillJ T.fill self 16 [])).cur]?).getD { frames := [] }) ((fillInside (npeInside V g N.toNpeT self y) (fillJ N.fill self 37 []) T.fill self (npeCell N.toNpeT y t)).setTop (fillJ T.fill self 16 [])).frames (nativeFrameWords "java/lang/Throwable" "fillInStackTrace" 2) = false := by
  obtain ⟨g₀, hg⟩ := Option.isSome_iff_exists.mp htop
  obtain ⟨tl, htl⟩ := State.topJava?_eq_some.mp hg
  have hlen : V.frames.length = (Frame.java g :: V.frames.tail).length := by rw [htl]; rfl
  have hfg : (V.setTop g).frames = .java g :: V.frames.tail := by rw [State.frames_setTop _ htl, htl]; rfl
  have hlimg : e.platform.stackLimits (V.setTop g).me = lim := by rw [State.stackLimits_setTop _ htop]; exact hlim
  have r1 := roomAbove (pl := e.platform) (u := V.setTop g) (vars := 1 + 2) (pushed := []) (base := .java g :: V.frames.tail) (free := 43) (lim := lim) hfg hlimg (by rw [← hlen]; simp only [List.length_nil]; omega) hwords (by simp only [stackUse_nil]; omega)
  have htopE : (V.setCell self (y.withEntry V.cur)).topJava?.isSome := htop
  have hfN : (npeInside V g N.toNpeT self y).frames = .java (entryFrameSync N.fill #[.ref self] 1 self) :: .java g :: V.frames.tail := by
    show (fillInside V g N.fill self y).frames = _
    rw [show (fillInside V g N.fill self y).frames = _ from frames_entered (g := g) htopE _]
    rfl
  have htopN : (npeInside V g N.toNpeT self y).topJava?.isSome := by rw [State.topJava?_of_frames hfN]; rfl
  have hlimN : e.platform.stackLimits (npeInside V g N.toNpeT self y).me = lim := by
    show e.platform.stackLimits (fillInside V g N.fill self y).me = lim
    rw [State.stackLimits_pushFrame, State.stackLimits_setTop _ htopE]; exact hlim
  have hw14 : (stackUse [Frame.java (fillJ N.fill self 37 [])]).2 = 14 := by
    rw [stackUse_java, stackUse_nil]
    simp [operandWords]
  have r2 := roomAbove (pl := e.platform) (u := (npeInside V g N.toNpeT self y).setTop (fillJ N.fill self 37 [])) (vars := 1 + 2)
      (pushed := [.java (fillJ N.fill self 37 [])]) (base := .java g :: V.frames.tail) (free := 43) (lim := lim) (State.frames_setTop _ hfN) (by rw [State.stackLimits_setTop _ htopN]; exact hlimN)
      (by rw [← hlen]; simp only [List.length_cons, List.length_nil]; omega) hwords (by rw [hw14]; omega)
  have htopE2 : ((npeInside V g N.toNpeT self y).setCell self ((npeCell N.toNpeT y t).withEntry (npeInside V g N.toNpeT self y).cur)).topJava?.isSome := by rw [State.topJava?_setCell]; exact htopN
  have hfF2 : (fillInside (npeInside V g N.toNpeT self y) (fillJ N.fill self 37 []) T.fill self (npeCell N.toNpeT y t)).frames = .java (entryFrameSync T.fill #[.ref self] 1 self) :: .java (fillJ N.fill self 37 []) :: .java g :: V.frames.tail := by
    rw [show (fillInside (npeInside V g N.toNpeT self y) (fillJ N.fill self 37 []) T.fill self (npeCell N.toNpeT y t)).frames = _ from frames_entered (g := (fillJ N.fill self 37 [])) htopE2 _]
    show _ :: _ :: ((npeInside V g N.toNpeT self y).frames).tail = _
    rw [hfN]; rfl
  have htopF2 : (fillInside (npeInside V g N.toNpeT self y) (fillJ N.fill self 37 []) T.fill self (npeCell N.toNpeT y t)).topJava?.isSome := by rw [State.topJava?_of_frames hfF2]; rfl
  have hlimF2 : e.platform.stackLimits (fillInside (npeInside V g N.toNpeT self y) (fillJ N.fill self 37 []) T.fill self (npeCell N.toNpeT y t)).me = lim := by
    rw [State.stackLimits_pushFrame, State.stackLimits_setTop _ htopE2]; exact hlimN
  have hw28 : (stackUse [Frame.java (fillJ T.fill self 16 []), Frame.java (fillJ N.fill self 37 [])]).2 = 28 := by
    rw [stackUse_java, hw14]
    simp [operandWords]
  have r3 := roomAbove (pl := e.platform) (u := (fillInside (npeInside V g N.toNpeT self y) (fillJ N.fill self 37 []) T.fill self (npeCell N.toNpeT y t)).setTop (fillJ T.fill self 16 [])) (vars := (nativeFrameWords "java/lang/Throwable" "fillInStackTrace" 2))
      (pushed := [.java (fillJ T.fill self 16 []), .java (fillJ N.fill self 37 [])]) (base := .java g :: V.frames.tail) (free := 43) (lim := lim) (State.frames_setTop _ hfF2) (by rw [State.stackLimits_setTop _ htopF2]; exact hlimF2)
      (by rw [← hlen]; simp only [List.length_cons, List.length_nil]; omega) hwords (by rw [hw28]; decide)
  exact ⟨r1, r2, r3⟩
/-- NullPointerException.fillInStackTrace(), called from any frame g -/
theorem xn_fill (p : Program) {e : Env} {below : List Frame} {s₀ V : State} {g : JFrame} {c : Code} (h : At V g.method c below) (hexec : p.tables.exec = Jvm.exec)
    (T : ThrowableC) (L : T.Links e.platform s₀) (N : NpeC) (LN : N.Links T e.platform s₀) (hW : s₀.WarmedH V.vm) (htr : e.platform.stackTraces = false)
    {u0 : RefV} {cell cellS : Cell} {kcell : Class} (hcell : V.heap[self]? = some cell) (hobj : ∀ k, cell.vm ≠ .statics k) (hknown : cell.vm ≠ .unknown) (hfree : cell.monitor.owner = none)
    (hkcell : s₀.vm.classes[cell.cls]? = some kcell) (hsel0 : selectMethod e.platform s₀.vm cell.cls T.fill0 = .method T.fill0)
    (hcellS : V.heap[T.aS]? = some cellS) (hneS : T.aS ≠ self) (hknownS : cellS.vm ≠ .unknown) (hvU : cellS.slots[T.fUnassigned.slot]? = some u0.v)
    (hvS : cell.slots[T.fStack.slot]? = some u0.v) (hv0 : cell.slots[N.fState.slot]? = some (.int 0)) (hneSt : T.fStack.slot ≠ N.fState.slot)
    (htS : Takes s₀ cell T.fStack u0.v) (ht1 : Takes s₀ cell N.fState (.int 1))
    (hskip : SkipFacts T e.platform s₀ (fun u => u) u0 ((npeCell N.toNpeT cell V.cur).withEntry V.cur))
    {ig : Instr} {len : Nat} (hdg : decode c.code g.pc = .ok (ig, len))
    {lim : Nat × Nat} (hlim : e.platform.stackLimits V.me = lim) (hframes : V.frames.length + 2 < lim.1) (hwords : (stackUse (.java g :: V.frames.tail)).2 + 43 ≤ lim.2) :
    ∃ vm', s₀.WarmedH vm' ∧ ∀ target, Steps p.tables e below (((V.setVm vm').setCell self ((((npeCell N.toNpeT cell V.cur).withEntry V.cur).setSlot T.fStack.slot u0.v).left).left).setTop { g with pc := g.pc + len, stack := .ref self :: g.stack }) target →
      Steps p.tables e below (doInvoke e (V.setTop g) [] N.fill #[.ref self]).1 target := by
  have hlt : self < V.heap.size := (Array.getElem?_eq_some_iff.mp hcell).1
  have tk2 : ∀ {f : Field} {v : Value}, Takes s₀ cell f v → Takes s₀ (npeCell N.toNpeT cell V.cur) f v := fun h' => ⟨by simpa [npeCell, Cell.setSlot, Cell.withEntry] using h'.1, h'.2⟩
  have hvSN : (npeCell N.toNpeT cell V.cur).slots[T.fStack.slot]? = some u0.v := by simpa [npeCell, Cell.setSlot, Cell.withEntry, Ne.symm hneSt] using hvS
  have hsz : (((npeCell N.toNpeT cell V.cur).withEntry V.cur)).slots.size = (npeCell N.toNpeT cell V.cur).slots.size := by simp [Cell.withEntry]
  have hinner : ∀ vm1, s₀.WarmedH vm1 → At (npeInside (V.setVm vm1) g N.toNpeT self cell) N.fill N.codeFill below → ∃ vm2, s₀.WarmedH vm2 ∧ ∀ t' : State,
      Steps p.tables e below (((npeInside (V.setVm vm2) g N.toNpeT self cell).setCell self (((npeCell N.toNpeT cell V.cur).withEntry V.cur).setSlot T.fStack.slot u0.v).left).setTop (fillJ N.fill self 40 [.ref self])) t' →
      Steps p.tables e below (doInvoke e ((npeInside (V.setVm vm1) g N.toNpeT self cell).setTop (fillJ N.fill self 37 [])) [] T.fill #[.ref self]).1 t' := by
    intro vm1 hW1 hAt
    obtain ⟨-, r2, -⟩ := xn_rooms (e := e) (V := V.setVm vm1) (g := g) (self := self) (t := V.cur) h.top T N cell hlim hframes hwords
    have hc1 : (npeInside (V.setVm vm1) g N.toNpeT self cell).heap[self]? = some (npeCell N.toNpeT cell V.cur) := heapAt_setCell_self _ (by show self < (V.heap.setIfInBounds self _).size; simpa using hlt)
    have hc2 : (npeInside (V.setVm vm1) g N.toNpeT self cell).heap[T.aS]? = some cellS := by
      show ((V.heap.setIfInBounds self _).setIfInBounds self _)[T.aS]? = _
      simp [Ne.symm hneS, hcellS]
    have hXvm : ∀ vm, (npeInside (V.setVm vm1) g N.toNpeT self cell).setVm vm = npeInside (V.setVm vm) g N.toNpeT self cell := fun vm => by rw [npeInside_setVm, State.setVm_twice]
    have hroomN : ∀ vm, e.platform.stackFull ((((fillInside ((npeInside (V.setVm vm1) g N.toNpeT self cell).setVm vm) (fillJ N.fill self 37 []) T.fill self (npeCell N.toNpeT cell V.cur)).setTop (fillJ T.fill self 16 [])).threads[((fillInside ((npeInside (V.setVm vm1) g N.toNpeT self cell).setVm vm) (fillJ N.fill self 37 []) T.fill self (npeCell N.toNpeT cell V.cur)).setTop (fillJ T.fill self 16 [])).cur]?).getD { frames := [] }) ((fillInside ((npeInside (V.setVm vm1) g N.toNpeT self cell).setVm vm) (fillJ N.fill self 37 []) T.fill self (npeCell N.toNpeT cell V.cur)).setTop (fillJ T.fill self 16 [])).frames (nativeFrameWords "java/lang/Throwable" "fillInStackTrace" 2) = false := fun vm => by
      rw [hXvm]
      exact (xn_rooms (e := e) (V := V.setVm vm) (g := g) (self := self) (t := V.cur) h.top T N cell hlim hframes hwords).2.2
    have hXcur : (npeInside (V.setVm vm1) g N.toNpeT self cell).cur = V.cur := rfl
    generalize hXe : npeInside (V.setVm vm1) g N.toNpeT self cell = X at hAt hc1 hc2 hXvm hroomN hXcur r2 ⊢
    have hXW : s₀.WarmedH X.vm := by rw [← hXe]; exact hW1
    obtain ⟨vm2, hW2, st⟩ := Steps.fillColdAnyV p (V := X) (g := (fillJ N.fill self 37 [])) (c := N.codeFill) (self := self) hAt hexec T L hXW (Nn := fun u => u) heapOnly_id (fun _ _ => rfl) (fun _ => rfl) (fun u x y => setCell_twice _ _ _ _) (cell := npeCell N.toNpeT cell V.cur) (cellS := cellS) (cN := (npeCell N.toNpeT cell V.cur).withEntry V.cur)
      (u0 := u0) (ig := .invokespecial 24) (len := 3) [] hc1 hobj hknown (Or.inr (by rw [hXcur]; rfl)) hvSN hsel0 hc2 hneS hknownS hvU (by rw [hXcur]; exact fun _ hu => hu) (fun _ hu => hu) rfl rfl (by rw [hXcur]) hsz (tk2 htS)
      (by rw [LN.fillBytes]; exact LibCode.NullPointerException.Fill.at_37) (fun _ vm3 hW3 hA3 t' hs => L.nativeOff p htr hA3 hW3 (hroomN vm3) hs) r2 (by rw [hXcur]; exact hskip)
    refine ⟨vm2, hW2, fun t' hs => st t' ?_⟩
    rw [hXvm]
    exact hs
  obtain ⟨r1, -, -⟩ := xn_rooms (e := e) (V := V) (g := g) (self := self) (t := V.cur) h.top T N cell hlim hframes hwords
  obtain ⟨vm', hW', st⟩ := Steps.npeFillColdBy p (V := V) (g := g) (c := c) (self := self) h hexec T L N LN hW (Fi := fun u => u.setCell self (((npeCell N.toNpeT cell V.cur).withEntry V.cur).setSlot T.fStack.slot u0.v).left) (heapOnly_id.thenSetCell self _)
    (fun _ => rfl) (fun u x y => by show ((u.setCell self x).setCell self _).setCell self y = (u.setCell self _).setCell self y; rw [setCell_twice, setCell_twice, setCell_twice]) (cell := cell) (cFi := (((npeCell N.toNpeT cell V.cur).withEntry V.cur).setSlot T.fStack.slot u0.v).left) (kcell := kcell) (ig := ig) (len := len) []
    hcell hobj hknown hfree hkcell hv0 ht1 (fun u hu => heapAt_setCell_self _ (Array.getElem?_eq_some_iff.mp hu).1) (by
      have h1 : (((npeCell N.toNpeT cell V.cur)).withEntry V.cur).left = npeCell N.toNpeT cell V.cur := Cell.left_withEntry_held _ rfl (by show 0 < cell.monitor.count + 1; omega)
      rw [Cell.left_setSlot, h1]; rfl) hdg hinner r1
  refine ⟨vm', hW', fun target hrest => st target ?_⟩
  show Steps p.tables e below ((((V.setVm vm').setCell self _).setCell self _).setTop _) target
  rw [setCell_twice]
  exact hrest
end XNF
