/-! What every method's contract rests on: the law's start s0, whose words hold in every later state, and whose cells nobody writes. -/
def xg (w : Cond) : Bool := w.onTables && w.keepsFace
theorem xg_at {s U : State} {a a' : Array Value} {w : Cond} (hW : s.WarmedH U.vm) (hg : xg w = true) (h : w.before a s = true) : w.before a' U = true := by
  simp only [xg, Bool.and_eq_true] at hg
  have h1 := Cond.before_shiftedFace (args := a) (State.Shifted.of_warmed hW) w hg.2 h
  rw [Cond.onTables_vm (A := a) (A' := a') (U := s) (U' := U) U.vm w hg.1, State.setVm_self] at h1
  exact h1
abbrev xTy (cA : Nat → ClassId) : List (ClassId × FieldType) := [(cA 0, .int), (cA 1, .long), (cA 2, .short), (cA 3, .byte), (cA 4, .char), (cA 5, .boolean), (cA 6, .float), (cA 7, .double), (cA 8, .object "FaultBench$Box"), (cA 9, .array .int)]
def xC (l : Launch) (s0 : State) (a0 : Array Value) (dC : Nat → ClassId) (dI : Nat → Nat → Nat) (cA : Nat → ClassId) : Prop :=
  l.stackTraces = false ∧ (∀ w ∈ lw_tbl, w.before a0 s0 = true) ∧ (Jvm.Cond.and given_1 narrow_1).before a0 s0 = true ∧ va_K (dC, dI) vwCl (xTy cA) s0
/-- the state U is later than s0: its tables are warmer, s0's cells are as they were -/
def xb (s0 U : State) : Prop := s0.WarmedH U.vm ∧ s0.heap.size ≤ U.heap.size ∧ ∀ q : Nat, q < s0.heap.size → U.heap[q]? = s0.heap[q]?
theorem xb.calling {s0 U : State} (h : xb s0 U) (g : JFrame) (mk : MethodId) (a : Array Value) : xb s0 (U.calling g mk a) := h
section XBB
variable {l : Launch} {s0 : State} {a0 : Array Value} {dC : Nat → ClassId} {dI : Nat → Nat → Nat} {cA : Nat → ClassId} {s : State} {args : Array Value}
theorem xC.w (h : xC l s0 a0 dC dI cA) (hb : xb s0 s) (n : Nat) {w : Cond} (hn : lw_tbl[n]? = some w) (hg : xg w = true) : w.before args s = true := xg_at hb.1 hg (h.2.1 w (List.mem_of_getElem? hn))
theorem xC.ar (h : xC l s0 a0 dC dI cA) (hb : xb s0 s) (n : Nat) {ty : FieldType} (hn : lw_tbl[n]? = some (.arrayClass ty)) : (Cond.arrayClass ty).before args s = true := word_at hb.1 (Or.inr ⟨ty, rfl⟩) (h.2.1 _ (List.mem_of_getElem? hn))
theorem xC.K (h : xC l s0 a0 dC dI cA) (hb : xb s0 s) : va_K (dC, dI) vwCl (xTy cA) s := va_K.moved hb.1.alike h.2.2.2
theorem xC.str (h : xC l s0 a0 dC dI cA) (hb : xb s0 s) (n : Nat) {own tx : String} {k : Nat} (hn : lw_tbl[n]? = some (.stringRef own k tx)) : (Cond.stringRef own k tx).before args s = true := by
  have h1 := h.2.1 _ (List.mem_of_getElem? hn)
  have h2 : (Cond.stringRef own k tx).before #[] s0 = true := h1
  obtain ⟨c, hc⟩ : ∃ c, s0.vm.findClass own = some c := by
    cases hf : s0.vm.findClass own with
    | some c => exact ⟨c, rfl⟩
    | none => simp [Cond.before, Cond.holds, Cond.value, Term.eval, hf] at h2
  obtain ⟨kk, cf, i, a, -, -, -, -, -, hev⟩ := Cond.stringRef_spec hc h2
  exact (vk_R.warm hb.1 (⟨h2, hev⟩ : vk_R own k tx a s0)).1
theorem xC.nc (h : xC l s0 a0 dC dI cA) (hb : xb s0 s) {C T : String} (hm : Cond.not (.castable C T) ∈ flatC (Jvm.Cond.and given_1 narrow_1)) : va_Nc C T s := va_Nc.moved hb.1.alike (va_Nc.of (flat_of_before _ h.2.2.1 _ hm))
/-- Throwable's two statics, at every later state -/
theorem xs_at {C n d : String} (hl : (Cond.laysStatic C n d).before a0 s0 = true) (hi : (Cond.initialized C).before a0 s0 = true) (hr : (Cond.isRef (.static C n d)).before a0 s0 = true) (hb : xb s0 s) :
    (Cond.laysStatic C n d).before args s = true ∧ (Cond.isRef (.static C n d)).before args s = true := by
  have hk : ∀ a : Nat, a < s0.heap.size → ¬ (fun _ : Nat => False) a → s.heap[a]? = s0.heap[a]? := fun a ha _ => hb.2.2 a ha
  have hz : va_Zq C n d (fun _ => False) s s.heap := va_Zq.kept (va_Zq.moved hb.1.alike (va_Zqof hl hi hr (fun _ _ z => z))) hk
  refine ⟨?_, ?_⟩
  · obtain ⟨c, k, i, f, a, cell, h1, h2, h3, h4, h5, h6, h7, h8, h9⟩ := Cond.laysStatic_spec hl
    obtain ⟨k', hi', he⟩ := State.fieldFound?_setVm hb.1.alike h2
    exact Cond.laysStatic_of (by rw [hb.1.alike.findClass]; exact h1) hi' h3 (by rw [he]; exact h4) (by rw [hb.2.2 a (Array.getElem?_eq_some_iff.mp h5).1]; exact h5) h6 h7 h8 (by rw [he]; exact h9)
  · have key : ∀ v : Value, v.isRef = true → va_Z C n d v (fun _ => False) s s.heap → (Cond.isRef (.static C n d)).before args s = true := by
      intro v hv hZ
      obtain ⟨cf, kf, fi, f, a, cell, h1, h2, h3, h4, h5, h6, h7, -⟩ := hZ
      have he : (Term.static C n d).eval args s none [] s = some v := by simp [Term.eval, State.fieldNamed?, h1, h2, h4, h5, h6, h7]
      simp only [Cond.before, Cond.holds, Cond.value, he]
      cases v <;> simp_all [Value.isRef]
    rcases hz with h | ⟨t, h⟩
    · exact key _ rfl h
    · exact key _ rfl h
def xs4 : List Cond := [.laysStatic Bundle.tN "UNASSIGNED_STACK" Bundle.steD, .laysStatic Bundle.tN "SUPPRESSED_SENTINEL" Bundle.listD, .isRef (.static Bundle.tN "UNASSIGNED_STACK" Bundle.steD), .isRef (.static Bundle.tN "SUPPRESSED_SENTINEL" Bundle.listD)]
set_option maxRecDepth 100000 in
theorem xC.four (h : xC l s0 a0 dC dI cA) (hb : xb s0 s) : ∀ w ∈ xs4, w.before args s = true := by
  have f1 := flat_of_before _ h.2.2.1
  have u1 := xs_at (args := args) (h.2.1 (.laysStatic Bundle.tN "UNASSIGNED_STACK" Bundle.steD) (List.mem_of_getElem? (i := 172) rfl)) (h.2.1 (.initialized Bundle.tN) (List.mem_of_getElem? (i := 11) rfl)) (f1 (.isRef (.static Bundle.tN "UNASSIGNED_STACK" Bundle.steD)) (by decide +kernel)) hb
  have u2 := xs_at (args := args) (h.2.1 (.laysStatic Bundle.tN "SUPPRESSED_SENTINEL" Bundle.listD) (List.mem_of_getElem? (i := 174) rfl)) (h.2.1 (.initialized Bundle.tN) (List.mem_of_getElem? (i := 11) rfl)) (f1 (.isRef (.static Bundle.tN "SUPPRESSED_SENTINEL" Bundle.listD)) (by decide +kernel)) hb
  intro w hw
  simp only [xs4, List.mem_cons, List.not_mem_nil, or_false] at hw
  rcases hw with rfl | rfl | rfl | rfl
  · exact u1.1
  · exact u2.1
  · exact u1.2
  · exact u2.2
/-- a list of words, each of the tables or one of those four -/
theorem xC.all (h : xC l s0 a0 dC dI cA) (hb : xb s0 s) (L : List Cond) (hL : (L.all fun w => (decide (w ∈ lw_tbl) && xg w) || decide (w ∈ xs4)) = true) : ∀ w ∈ L, w.before args s = true := by
  intro w hw
  have h1 := List.all_eq_true.mp hL w hw
  rcases Bool.or_eq_true _ _ ▸ h1 with h2 | h2
  · rw [Bool.and_eq_true] at h2
    exact xg_at hb.1 h2.2 (h.2.1 w (of_decide_eq_true h2.1))
  · exact h.four hb w (of_decide_eq_true h2)
end XBB
