/-! How a contract's walk begins. -/
theorem xM_start {s0 s : State} {D : va_G} {wr wc : va_W} (hb0 : xb s0 s) (hPr : va_P D vwCl wr s.heap) (hP : va_P D vwCl wc s.heap) (hD0 : va_D (fun q => s0.heap.size ≤ q) (wr ++ wc)) :
    ∃ A : Nat → Prop, va_A wc s.heap.size = A ∧ va_D A wc ∧ (∀ q, s.heap.size ≤ q → A q) ∧ (∀ q, A q → s0.heap.size ≤ q) ∧ (∀ (H : Heap) (locs : List Loc), va_S A s.heap H locs → va_P D vwCl wr H) ∧ (∀ w1 : va_W, va_D A w1 → va_D (fun q => s0.heap.size ≤ q) w1) ∧ (∀ (k : Nat) (q : Nat × va_E), wr[k]? = some q → ¬ A q.1) := by
  have hR : ∀ (k : Nat) (q : Nat × va_E), wr[k]? = some q → ¬ va_A wc s.heap.size q.1 := by
    intro k q hk hq
    rcases hq with ⟨j, e, hj⟩ | hq
    · have h1 : (wr ++ wc)[k]? = some q := by rw [List.getElem?_append_left (List.getElem?_eq_some_iff.mp hk).1]; exact hk
      have h2 : (wr ++ wc)[wr.length + j]? = some (q.1, e) := by rw [List.getElem?_append_right (Nat.le_add_right _ _), Nat.add_sub_cancel_left]; exact hj
      have h3 := hD0.1 k (wr.length + j) q (q.1, e) h1 h2 rfl
      have h4 := (List.getElem?_eq_some_iff.mp hk).1
      omega
    · exact absurd (hPr k q hk).lt (Nat.not_lt.mpr hq)
  have hz : ∀ q, va_A wc s.heap.size q → s0.heap.size ≤ q := by
    intro q hq
    rcases hq with ⟨j, e, hj⟩ | hq
    · exact hD0.2 (wr.length + j) (q, e) (by rw [List.getElem?_append_right (Nat.le_add_right _ _), Nat.add_sub_cancel_left]; exact hj)
    · exact Nat.le_trans hb0.2.1 hq
  refine ⟨_, rfl, ⟨fun i j p q h1 h2 h3 => ?_, fun k q hk => va_A.in hk⟩, fun q h => Or.inr h, hz, fun H locs hS => hPr.kept (fun k q hk => hS.2.1 q.1 (hPr k q hk).lt (hR k q hk)), fun w1 h => h.weaken (fun _ _ _ g => hz _ g), hR⟩
  have g1 : (wr ++ wc)[wr.length + i]? = some p := by rw [List.getElem?_append_right (Nat.le_add_right _ _), Nat.add_sub_cancel_left]; exact h1
  have g2 : (wr ++ wc)[wr.length + j]? = some q := by rw [List.getElem?_append_right (Nat.le_add_right _ _), Nat.add_sub_cancel_left]; exact h2
  have g3 := hD0.1 _ _ p q g1 g2 h3
  omega
/-- cells read and cells changed, side by side -/
theorem xDD {z0 : Nat} {A : Nat → Prop} {w1 w2 : va_W} (h1 : va_D (fun q => z0 ≤ q) w1) (h2 : va_D A w2) (hz : ∀ q, A q → z0 ≤ q) (hn : ∀ (k : Nat) (q : Nat × va_E), w1[k]? = some q → ¬ A q.1) : va_D (fun q => z0 ≤ q) (w1 ++ w2) :=
  va_D.app h1 (h2.weaken (fun _ _ _ g => hz _ g)) (fun i j p q hi hj he => hn i p hi (by rw [he]; exact h2.2 j q hj))
theorem xDl {A : Nat → Prop} {w1 w2 : va_W} (h : va_D A (w1 ++ w2)) : va_D A w1 := h.by (fun k => k) (fun k q hk => by rw [List.getElem?_append_left (List.getElem?_eq_some_iff.mp hk).1]; exact hk) (fun i j _ _ e => e)
section XLC
variable {p : Program} {l : Launch} {e : Env} {R : Room} {s : State} {m : MethodId} {args : Array Value} {below : List Frame} {meth : Method} {c : Code} {H : Heap} {locs : List Loc} {cells slots : Nat} {Q : State → Prop}
theorem xlcmp {cc : ByteArray} (hexec : p.tables.exec = Jvm.exec) (hb : c.code = cc) {x y : Int64} {pc : Nat} {ls : Array Slot} {rest : List Value} (hdg : decode cc pc = .ok (.lcmp, 1))
    (k : ∀ v : Int32, (v = 0 ↔ x = y) → W p l e R s m args below meth c H locs cells slots Q (F0 m (pc + 1) ls (.int v :: rest))) : W p l e R s m args below meth c H locs cells slots Q (F0 m pc ls (.long y :: .long x :: rest)) := by
  exact W.lcmp hexec hb hdg (k _ (lg_cmp_eq x y))
end XLC
