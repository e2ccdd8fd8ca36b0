/-! The search through a method's table where the catch rows may still be unresolved. -/
section XKA
variable {e : Env} {s : State} {f : JFrame} {a : Addr}
/-- one covering row: its link is noted; then it takes the object, or the search goes on -/
theorem xk_row {Q : Handler → Pre} {E : CtlPost} {d : Bool} {acts : List Action} {y : ExceptionTableEntry} {t : List ExceptionTableEntry} {c : ClassId} {cell : Cell} (hx : covers y f.pc = true) (h0 : y.catchType ≠ 0)
    (hl : s.vm.ClassLinks e.platform f.method.cls y.catchType c) (hcell : s.heap[a]? = some cell) (hobj : ∀ k, cell.vm ≠ .statics k) (hk : ∃ k, s.vm.classes[cell.cls]? = some k) (hc : ∃ k, s.vm.classes[c]? = some k) :
    wp (findHandler.go f a (y :: t)) Q E e d acts s ↔ if s.vm.assignable cell.cls c = true then Q (.found y.handlerPc) d acts (s.setVm (s.vm.noted f.method.cls y.catchType (.cls c)))
      else wp (findHandler.go f a t) Q E e d acts (s.setVm (s.vm.noted f.method.cls y.catchType (.cls c))) := by
  simp only [covers] at hx
  obtain ⟨ha, ht⟩ := (resolveClass_links e.toSetting hl).op (op := VmOp.resolveClass f.method.cls y.catchType) rfl
  have hal : s.vm.Alike (s.vm.noted f.method.cls y.catchType (.cls c)) := (Vm.Alike.refl s.vm).noted _ _ _
  obtain ⟨k1, hk1⟩ := hk
  obtain ⟨k2, hk2⟩ := hc
  obtain ⟨k1', hk1', -⟩ := hal.2.2 _ _ hk1
  obtain ⟨k2', hk2', -⟩ := hal.2.2 _ _ hk2
  have hq : (s.vm.noted f.method.cls y.catchType (.cls c)).assignable cell.cls c = s.vm.assignable cell.cls c := hal.assignable ..
  cases hb : s.vm.assignable cell.cls c with
  | true =>
    rw [hb] at hq
    simp [findHandler.go, hx, h0, ha, ht, hcell, hobj, hk1', hk2', hq, VmOp.dirties, VmOp.acts]
  | false =>
    rw [hb] at hq
    simp [findHandler.go, hx, h0, ha, ht, hcell, hobj, hk1', hk2', hq, VmOp.dirties, VmOp.acts]
end XKA
/-- rows ahead that do not take the thrown object -/
def xk_No (pl : Platform) (s0 : State) (d th : ClassId) (pc : Nat) (y : ExceptionTableEntry) : Prop := covers y pc = true ∧ y.catchType ≠ 0 ∧ ∃ c, s0.vm.ClassLinks pl d y.catchType c ∧ s0.vm.assignable th c = false
theorem xk_go {e : Env} {s0 : State} {f : JFrame} {a : Addr} {cell : Cell} {k0 : Class} (hobj : ∀ k, cell.vm ≠ .statics k) (hk0 : s0.vm.classes[cell.cls]? = some k0)
    (y : ExceptionTableEntry) (rest : List ExceptionTableEntry) (hx : covers y f.pc = true) (h0 : y.catchType ≠ 0) {c : ClassId} (hl : s0.vm.ClassLinks e.platform f.method.cls y.catchType c) (hfit : s0.vm.assignable cell.cls c = true) :
    ∀ (pre : List ExceptionTableEntry) (S : State), s0.WarmedH S.vm → S.heap[a]? = some cell → (∀ z ∈ pre, xk_No e.platform s0 f.method.cls cell.cls f.pc z) →
      ∃ vm', s0.WarmedH vm' ∧ ∀ (Q : Handler → Pre) (E : CtlPost) (d : Bool) (acts : List Action), wp (findHandler.go f a (pre ++ y :: rest)) Q E e d acts S ↔ Q (.found y.handlerPc) d acts (S.setVm vm') := by
  intro pre
  induction pre with
  | nil =>
    intro S hW hcell _
    obtain ⟨k0', hk0', -⟩ := hW.alike.2.2 _ _ hk0
    obtain ⟨dk, _, _, kt, hd, _, _, _, _, hkt, _, hopen⟩ := hl.here
    obtain ⟨kt', hkt', -⟩ := hW.alike.2.2 _ _ hkt
    refine ⟨_, hW.noted hd hopen (State.rightAt_cls hl), fun Q E d acts => ?_⟩
    rw [List.nil_append, xk_row hx h0 (hW.classLinks hl) hcell hobj ⟨k0', hk0'⟩ ⟨kt', hkt'⟩, if_pos (by rw [hW.alike.assignable]; exact hfit)]
  | cons z zs ih =>
    intro S hW hcell hp
    obtain ⟨hz, hz0, cz, hlz, hno⟩ := hp z List.mem_cons_self
    obtain ⟨k0', hk0', -⟩ := hW.alike.2.2 _ _ hk0
    obtain ⟨dk, _, _, kt, hd, _, _, _, _, hkt, _, hopen⟩ := hlz.here
    obtain ⟨kt', hkt', -⟩ := hW.alike.2.2 _ _ hkt
    obtain ⟨vm', hW', hq⟩ := ih (S.setVm (S.vm.noted f.method.cls z.catchType (.cls cz))) (hW.noted hd hopen (State.rightAt_cls hlz)) hcell (fun w hw => hp w (List.mem_cons_of_mem _ hw))
    refine ⟨vm', hW', fun Q E d acts => ?_⟩
    rw [List.cons_append, xk_row hz hz0 (hW.classLinks hlz) hcell hobj ⟨k0', hk0'⟩ ⟨kt', hkt'⟩, if_neg (by rw [hW.alike.assignable, hno]; exact Bool.false_ne_true)]
    exact hq Q E d acts
theorem xk_step {e : Env} {s : State} {a : Addr} {f : JFrame} {r : List Frame} {pc : Nat} {vm' : Vm} (hfind : ∀ (Q : Handler → Pre) (E : CtlPost) (d : Bool) (acts : List Action), wp (findHandler f a) Q E e d acts s ↔ Q (.found pc) d acts (s.setVm vm')) :
    (stepThrowing e s a (.java f :: r)).1 = (s.setVm vm').setFrames (.java { f with pc := pc, stack := [.ref a] } :: r) := by
  have h : (stepThrowing e s a (.java f :: r)).Is ((s.setVm vm').setFrames (.java { f with pc := pc, stack := [.ref a] } :: r)) [] := by
    simp only [stepThrowing, searchFrame, vmDo]
    generalize hr : Sem.go _ e false [] s = res
    obtain ⟨as, rfl, ha⟩ := Sem.eq_ok_of hr (a := Handler.found pc) (s' := s.setVm vm') (acts' := []) (by simp [hfind _ _ _ _])
    exact ⟨rfl, ha⟩
  exact h.1
section XKB
variable {p : Program} {l : Launch} {e : Env} {R : Room} {s : State} {m : MethodId} {args : Array Value} {below : List Frame} {meth : Method} {c : Code} {H : Heap} {locs : List Loc} {cells slots : Nat} {Q : State → Prop}
/-- caught here: by the row y, the rows ahead don't take it -/
theorem xt_catch {own nm E : String} {ce : Cell} {q : Addr} {pc : Nat} {ls : Array Slot} {st : List Value} (hown : s.vm.findClass own = some m.cls) (pre : List ExceptionTableEntry) (y : ExceptionTableEntry) (suf : List ExceptionTableEntry) (hsplit : c.exceptionTable.toList = pre ++ y :: suf)
    (hpre : ∀ z ∈ pre, covers z pc = true ∧ z.catchType ≠ 0 ∧ ∃ zn : String, (Cond.classLink own z.catchType zn).before args s = true ∧ va_Nc E zn s) (hy : covers y pc = true) (h0 : y.catchType ≠ 0)
    (hlink : (Cond.classLink own y.catchType nm).before args s = true) (hcast : (Cond.castable E nm).before args s = true) (hce : H[q]? = some ce) (hcv : ce.vm = .none) (hcl : s.vm.findClass E = some ce.cls)
    (kk : W p l e R s m args below meth c H locs cells slots Q (F0 m y.handlerPc ls [.ref q])) : xt_W p l e R s m args below meth c H locs cells slots Q (F0 m pc ls st) q := by
  intro T hT X
  have hpl : e.platform.magicAccessors = ({} : Platform).magicAccessors := by rw [X.admits.platform]
  obtain ⟨c3, c4, hc3, hc4, hasg⟩ := Cond.castable_spec hcast
  cases Option.some.inj (hc3.symm.trans hcl)
  obtain ⟨c5, hc5, hcl5⟩ := Cond.classLink_spec hown hlink e.platform hpl
  cases Option.some.inj (hc4.symm.trans hc5)
  obtain ⟨k9, h9, -⟩ := Vm.findClass_spec hcl
  have hcell : ((T.setTop (F0 m pc ls st)).pushFrame (.throwing q)).heap[q]? = some ce := by rw [Stand.throwing_heap, hT]; exact hce
  have hW0 : s.WarmedH ((T.setTop (F0 m pc ls st)).pushFrame (.throwing q)).vm := by rw [Stand.throwing_vm]; exact X.warmed
  obtain ⟨vm', hW', hq⟩ := xk_go (e := e) (s0 := s) (f := F0 m pc ls st) (a := q) (cell := ce) (fun k h => by rw [hcv] at h; cases h) h9 y suf hy h0 hcl5 hasg pre ((T.setTop (F0 m pc ls st)).pushFrame (.throwing q)) hW0 hcell
    (fun z hz => by
      obtain ⟨z1, z2, zn, z3, z4⟩ := hpre z hz
      obtain ⟨c6, hc6, hcl6⟩ := Cond.classLink_spec hown z3 e.platform hpl
      obtain ⟨a8, b8, g1, g2, g3⟩ := z4
      cases Option.some.inj (g1.symm.trans hcl)
      cases Option.some.inj (g2.symm.trans hc6)
      exact ⟨z1, z2, _, hcl6, g3⟩)
  have hm' : ((T.setTop (F0 m pc ls st)).pushFrame (.throwing q)).vm.method? (F0 m pc ls st).method = some meth := by rw [Stand.throwing_vm]; exact X.method'
  obtain ⟨t, a1, b1⟩ := kk (T.setVm vm') hT (X.noted hW')
  refine ⟨t, ?_, b1⟩
  have h : At T (F0 m pc ls st).method c below := X.here
  obtain ⟨hgo, hw⟩ := h.throwing q
  refine Steps.head hgo hw ?_
  rw [stepThread_throwing (frames_entered h.top _), xk_step (s := (T.setTop (F0 m pc ls st)).pushFrame (.throwing q)) (f := F0 m pc ls st) (vm' := vm') (pc := y.handlerPc) (fun Q E d acts => by rw [_root_.Jvm.W.findHandler_eq hm' X.code, hsplit]; exact hq Q E d acts)]
  obtain ⟨g₀, hr⟩ := X.frames_eq
  have hr' : (T.setVm vm').frames = .java g₀ :: below := hr
  rw [State.setTop_of_frames _ hr'] at a1
  have e1 : ((((T.setTop (F0 m pc ls st)).pushFrame (.throwing q)).setVm vm').setFrames (.java { F0 m pc ls st with pc := y.handlerPc, stack := [.ref q] } :: T.frames.tail)) = (T.setVm vm').setFrames (.java (F0 m y.handlerPc ls [.ref q]) :: below) := by
    rw [State.pushFrame, State.setTop_of_frames _ hr, hr]
    show (((T.setVm vm').setFrames _).setFrames _).setFrames _ = _
    rw [State.setFrames_setFrames, State.setFrames_setFrames]
    rfl
  rw [e1]
  exact a1
end XKB
