/-! The three kinds of contract of this proof, and the rows of a call under each. xP: what holds ahead (the cells ws, unchanged behind). xR: the answer v, the heap as it was. xPM, xQM: the cells wc may change, wr is read. -/
def xP (s0 : State) (D : va_G) (av : List Value) (ws : va_W) : Array Value → State → Prop := va_Pc av (fun U => xb s0 U ∧ va_P D vwCl ws U.heap)
def xR (v : Option Value) : Array Value → State → Outcome → State → Prop := fun _ st o t => o = .returned v ∧ t.heap = st.heap
def xPM (s0 : State) (D : va_G) (av : List Value) (wr wc : va_W) (sz : Nat) : Array Value → State → Prop := va_Pc av (fun U => U.heap.size = sz ∧ xb s0 U ∧ va_P D vwCl wr U.heap ∧ va_P D vwCl wc U.heap ∧ va_D (fun q => s0.heap.size ≤ q) (wr ++ wc))
def xQM (D : va_G) (A : Nat → Prop) (Φ : Option Value → va_W → Prop) : Array Value → State → Outcome → State → Prop := fun _ st o t => ∃ (r : Option Value) (w1 : va_W), o = .returned r ∧ Φ r w1 ∧ va_P D vwCl w1 t.heap ∧ va_D A w1 ∧ va_F A st t
theorem xP.blind {s0 : State} {D : va_G} {av : List Value} {ws : va_W} : FrameBlind (xP s0 D av ws) := fun a U g mk q => ⟨q.1, q.2.1, q.2.2⟩
theorem xPM.blind {s0 : State} {D : va_G} {av : List Value} {wr wc : va_W} {sz : Nat} : FrameBlind (xPM s0 D av wr wc sz) := fun a U g mk q => ⟨q.1, q.2⟩
section XCA
variable {p : Program} {l : Launch} {e : Env} {R : Room} {s : State} {m : MethodId} {args : Array Value} {below : List Frame} {meth : Method} {c : Code} {H : Heap} {locs : List Loc} {cells slots : Nat} {Q : State → Prop}
variable {pc : Nat} {ls : Array Slot} {rest st0 : List Value} {a : Array Value} {A0 : Nat → Prop} {H0 : Heap} {mc ms : Nat} {D : va_G} {s0 : State}
theorem xr_of {v : Option Value} (hr : va_Run p l e R s m args below meth c H locs cells slots 0 0 (F0 m pc ls st0) rest (xR v a) (fun _ => False)) (kk : W p l e R s m args below meth c H locs cells slots Q (F0 m (pc + 3) ls (v.toList ++ rest))) :
    W p l e R s m args below meth c H locs cells slots Q (F0 m pc ls st0) := by
  intro T hT X
  obtain ⟨v', st₀, t, T', L, h0, X', hL, e1, e2, ⟨hv, hh⟩, st⟩ := hr T hT X
  cases hv
  obtain ⟨t2, a1, b1⟩ := kk T' (by rw [e1, hh, h0]) (Stand.forget X' (fun q h => (hL q h).elim))
  exact ⟨t2, st t2 a1, b1⟩
theorem xm_S {wc : va_W} {st₀ t T' : State} {L : List Loc} (h0 : st₀.heap = H) (e1 : T'.heap = t.heap) (hS : va_S A0 H0 H locs) (hf : ∀ q, va_A wc H.size q → A0 q) (hL : ∀ q ∈ L, va_A wc H.size q.base) (hF : va_F (va_A wc H.size) st₀ t) :
    H.size ≤ T'.heap.size ∧ (∀ q : Nat, q < H.size → ¬ va_A wc H.size q → T'.heap[q]? = H[q]?) ∧ va_S A0 H0 T'.heap (locs ++ L) := by
  obtain ⟨hz, hk⟩ := hF
  rw [h0] at hz hk
  refine ⟨by rw [e1]; exact hz, fun q h1 h2 => by rw [e1]; exact hk q h1 h2, Nat.le_trans hS.1 (by rw [e1]; exact hz), fun q h1 h2 => ?_, fun q hq => ?_⟩
  · rw [e1, hk q (Nat.lt_of_lt_of_le h1 hS.1) (fun z => h2 (hf q z))]
    exact hS.2.1 q h1 h2
  · rcases List.mem_append.mp hq with h | h
    · exact hS.2.2 q h
    · exact hf _ (hL q h)
/-- behind a call that changes the cells wc (places isC of the caller's ws); isR: the others -/
theorem xm_of {ws wc wo : va_W} {Φ : Option Value → va_W → Prop} (hr : va_Run p l e R s m args below meth c H locs cells slots mc ms (F0 m pc ls st0) rest (xQM D (va_A wc H.size) Φ a) (va_A wc H.size))
    (hP : va_P D vwCl ws H) (hD : va_D A0 ws) (hS : va_S A0 H0 H locs) (hA : ∀ q, H0.size ≤ q → A0 q) (isC isR : List Nat) (hC : isC.map (fun i => ws[i]?) = wc.map some) (hR : isR.map (fun i => ws[i]?) = wo.map some) (hn : va_nd isR = true) (hdis : ∀ i ∈ isR, i ∉ isC)
    (kk : ∀ (r : Option Value) (w1 : va_W) (H1 : Heap) (locs1 : List Loc), Φ r w1 → va_P D vwCl (wo ++ w1) H1 → va_D A0 (wo ++ w1) → va_S A0 H0 H1 locs1 → W p l e R s m args below meth c H1 locs1 (cells + mc) (slots + ms) Q (F0 m (pc + 3) ls (r.toList ++ rest))) :
    W p l e R s m args below meth c H locs cells slots Q (F0 m pc ls st0) := by
  intro T hT X
  obtain ⟨v', st₀, t, T', L, h0, X', hL, e1, e2, ⟨r, w1, hv, hΦ, hP1, hD1, hF⟩, st⟩ := hr T hT X
  cases hv
  have hf := va_free hD hS hA isC hC
  obtain ⟨k1, k2, k3⟩ := xm_S h0 e1 hS hf hL hF
  obtain ⟨j1, j2⟩ := va_join hP hD isC isR hC hR hn hdis k2 hf (by rw [e1]; exact hP1) hD1
  obtain ⟨t2, a1, b1⟩ := kk v' w1 T'.heap (locs ++ L) hΦ j1 j2 k3 T' rfl X'
  exact ⟨t2, st t2 a1, b1⟩
/-- the same where the caller's cells end in a list pl that the callee doesn't touch -/
theorem xm_ofQ {X9 wc wo pl : va_W} {Φ : Option Value → va_W → Prop} (hr : va_Run p l e R s m args below meth c H locs cells slots mc ms (F0 m pc ls st0) rest (xQM D (va_A wc H.size) Φ a) (va_A wc H.size))
    (hP : va_P D vwCl (X9 ++ pl) H) (hD : va_D A0 (X9 ++ pl)) (hS : va_S A0 H0 H locs) (hA : ∀ q, H0.size ≤ q → A0 q) (isC isR : List Nat) (hC : isC.map (fun i => X9[i]?) = wc.map some) (hR : isR.map (fun i => X9[i]?) = wo.map some) (hn : va_nd isR = true) (hdis : ∀ i ∈ isR, i ∉ isC)
    (kk : ∀ (r : Option Value) (w1 : va_W) (H1 : Heap) (locs1 : List Loc), Φ r w1 → va_P D vwCl ((wo ++ w1) ++ pl) H1 → va_D A0 ((wo ++ w1) ++ pl) → va_S A0 H0 H1 locs1 → W p l e R s m args below meth c H1 locs1 (cells + mc) (slots + ms) Q (F0 m (pc + 3) ls (r.toList ++ rest))) :
    W p l e R s m args below meth c H locs cells slots Q (F0 m pc ls st0) := by
  intro T hT X
  obtain ⟨v', st₀, t, T', L, h0, X', hL, e1, e2, ⟨r, w1, hv, hΦ, hP1, hD1, hF⟩, st⟩ := hr T hT X
  cases hv
  have hf : ∀ q, va_A wc H.size q → A0 q := by
    intro q hq
    rcases hq with ⟨k, ee, hk⟩ | hq
    · obtain ⟨i, -, hi⟩ := va_in_of isC hC hk
      exact hD.2 i (q, ee) (by rw [List.getElem?_append_left (List.getElem?_eq_some_iff.mp hi).1]; exact hi)
    · exact hA q (Nat.le_trans hS.1 hq)
  obtain ⟨k1, k2, k3⟩ := xm_S h0 e1 hS hf hL hF
  obtain ⟨j1, j2⟩ := va_joinQ hP hD isC isR hC hR hn hdis k2 hf (by rw [e1]; exact hP1) hD1
  obtain ⟨t2, a1, b1⟩ := kk v' w1 T'.heap (locs ++ L) hΦ j1 j2 k3 T' rfl X'
  exact ⟨t2, st t2 a1, b1⟩
/-- where the walk stands: the heap H is s's but for the footprint A0, which lies above s0 -/
theorem xh_U (hb0 : xb s0 s) (hS : va_S A0 s.heap H locs) (hz : ∀ q, A0 q → s0.heap.size ≤ q) {U : State} (hU : U.heap = H) (hW : s.WarmedH U.vm) : xb s0 U := by
  refine ⟨State.WarmedH.trans hb0.1 hW, by rw [hU]; exact Nat.le_trans hb0.2.1 hS.1, fun q hq => ?_⟩
  rw [hU, hS.2.1 q (Nat.lt_of_lt_of_le hq hb0.2.1) (fun z => absurd (hz q z) (Nat.not_le.mpr hq))]
  exact hb0.2.2 q hq
theorem xpS {As : List Value} {wc : va_W} (hb0 : xb s0 s) (hS : va_S A0 s.heap H locs) (hz : ∀ q, A0 q → s0.heap.size ≤ q) (hPc : va_P D vwCl wc H) : PreS s H (xP s0 D As wc) As := ⟨xP.blind, fun U hU hW => ⟨rfl, xh_U hb0 hS hz hU hW, by rw [hU]; exact hPc⟩⟩
theorem xpV {As : List Value} {wc : va_W} {C : String} {b : Addr} (hb0 : xb s0 s) (hS : va_S A0 s.heap H locs) (hz : ∀ q, A0 q → s0.heap.size ≤ q) (hPc : va_P D vwCl wc H) (hv : ∃ cellB : Cell, H[b]? = some cellB ∧ cellB.vm.isStatics = false ∧ s.vm.findClass C = some cellB.cls) :
    PreV s H C b (xP s0 D (.ref b :: As) wc) As := ⟨xP.blind, hv, fun U hU hW => ⟨rfl, xh_U hb0 hS hz hU hW, by rw [hU]; exact hPc⟩⟩
theorem xpMS {As : List Value} {wr wc : va_W} (hb0 : xb s0 s) (hS : va_S A0 s.heap H locs) (hz : ∀ q, A0 q → s0.heap.size ≤ q) (hPr : va_P D vwCl wr H) (hPc : va_P D vwCl wc H) (hDc : va_D (fun q => s0.heap.size ≤ q) (wr ++ wc)) : PreS s H (xPM s0 D As wr wc H.size) As :=
  ⟨xPM.blind, fun U hU hW => ⟨rfl, by rw [hU], xh_U hb0 hS hz hU hW, by rw [hU]; exact hPr, by rw [hU]; exact hPc, hDc⟩⟩
theorem xpMV {As : List Value} {wr wc : va_W} {C : String} {b : Addr} (hb0 : xb s0 s) (hS : va_S A0 s.heap H locs) (hz : ∀ q, A0 q → s0.heap.size ≤ q) (hPr : va_P D vwCl wr H) (hPc : va_P D vwCl wc H) (hDc : va_D (fun q => s0.heap.size ≤ q) (wr ++ wc)) (hv : ∃ cellB : Cell, H[b]? = some cellB ∧ cellB.vm.isStatics = false ∧ s.vm.findClass C = some cellB.cls) :
    PreV s H C b (xPM s0 D (.ref b :: As) wr wc H.size) As := ⟨xPM.blind, hv, fun U hU hW => ⟨rfl, by rw [hU], xh_U hb0 hS hz hU hW, by rw [hU]; exact hPr, by rw [hU]; exact hPc, hDc⟩⟩
/-- a call's words -/
theorem xB {own : String} {index n maxL : Nat} {y : MethodName} {bytes : ByteArray} {ret : Option FieldType} {rm : Room} (hcode : (Cond.code y bytes maxL ret).before args s = true) (hini : (Cond.initialized y.cls).before args s = true) (hl : (Cond.methodLink own index y).before args s = true)
    (hd : y.cls ≠ "java/lang/invoke/MethodHandle" ∧ y.cls ≠ "java/lang/invoke/VarHandle") (hn : (parseMethodDescriptor y.desc).map (fun d => d.parameters.length) = some n) (hrc : rm.cells = mc) (hrs : rm.slots = ms) (hR : rm.frames + 1 ≤ R.frames) (hR2 : 8 + (maxL + 11) + rm.locals ≤ R.locals) :
    CallB R s args own index y bytes maxL ret [.code y bytes maxL ret] rm mc ms n := by
  refine ⟨hrc, hrs, hR, hR2, fun w hw a' U hW => ?_, List.mem_cons_self, hcode, hini, hd, fun sig h => ?_, hl⟩
  · rw [List.mem_singleton] at hw
    rw [hw]
    exact xg_at hW rfl hcode
  · rw [h] at hn
    exact (Option.some.inj hn).symm
theorem xTs : ∀ w ∈ ([] : List Cond), w.before args s = true := fun _ h => nomatch h
/-- a heap that has only grown keeps every cell of a world -/
theorem xgrow {ws : va_W} {H1 : Heap} (hP : va_P D vwCl ws H) (hk : ∀ z : Nat, z < H.size → H1[z]? = H[z]?) : va_P D vwCl ws H1 := hP.kept (fun k q hq => hk q.1 (hP k q hq).lt)
theorem xgrowS {H1 : Heap} (hS : va_S A0 H0 H locs) (hz : H.size ≤ H1.size) (hk : ∀ z : Nat, z < H.size → H1[z]? = H[z]?) : va_S A0 H0 H1 locs := ⟨Nat.le_trans hS.1 hz, fun q h1 h2 => by rw [hk q (Nat.lt_of_lt_of_le h1 hS.1)]; exact hS.2.1 q h1 h2, hS.2.2⟩
end XCA
