theorem gmx_at {I J : Nat} (hI : I < 8) (hJ : J < 8) : gmx 8 0 I J = 10 * nI I + nI J := by simp [gmx, hI, hJ]
theorem lpush {D : va_G} {X Y : va_W} {LP : List Nat} {bx : Nat → va_E} {q : Nat} {e : va_E} {H : Heap} (h : va_P D vwCl ((X ++ [(q, e)]) ++ (Y ++ va_pl LP bx)) H) (hq : q ∉ LP) : va_P D vwCl (X ++ (Y ++ va_pl (LP ++ [q]) (va_up bx q e))) H := by
  have h2 := va_P.swap h
  rw [← va_pl_push hq, ← List.append_assoc Y, ← List.append_assoc X]
  exact h2
theorem lpushD {A : Nat → Prop} {X Y : va_W} {LP : List Nat} {bx : Nat → va_E} {q : Nat} {e : va_E} (h : va_D A ((X ++ [(q, e)]) ++ (Y ++ va_pl LP bx))) (hq : q ∉ LP) : va_D A (X ++ (Y ++ va_pl (LP ++ [q]) (va_up bx q e))) := by
  have h2 := va_D.swap h
  rw [← va_pl_push hq, ← List.append_assoc Y, ← List.append_assoc X]
  exact h2
theorem lfresh {A : Nat → Prop} {X Y : va_W} {LP : List Nat} {bx : Nat → va_E} {q : Nat} {e : va_E} (h : va_D A ((X ++ [(q, e)]) ++ (Y ++ va_pl LP bx))) : q ∉ LP := by
  intro hq
  obtain ⟨k, hk, hg⟩ := lbox (X := X ++ [(q, e)]) (Y := Y) (bx := bx) rfl hq
  have h1 : ((X ++ [(q, e)]) ++ (Y ++ va_pl LP bx))[X.length]? = some (q, e) := by
    rw [List.getElem?_append_left (by simp), List.getElem?_append_right (Nat.le_refl _), Nat.sub_self]; rfl
  have := h.1 X.length k _ _ h1 hg rfl
  simp at hk
  omega
theorem lset {A : Nat → Prop} {X0 X Y : va_W} {LP : List Nat} {bx : Nat → va_E} {a k n : Nat} {e : va_E} (hX : X0.length = n ∧ X.length = n) (hn : n ≤ k) (hD : va_D A (X0 ++ (Y ++ va_pl LP bx))) (ha : a ∈ LP) (hk : (X0 ++ (Y ++ va_pl LP bx))[k]? = some (a, bx a)) : (X ++ (Y ++ va_pl LP bx)).set k (a, e) = X ++ (Y ++ va_pl LP (va_up bx a e)) := by
  have hD2 : va_D A (Y ++ va_pl LP bx) := hD.by (fun i => X0.length + i) (fun i q hi => by rw [List.getElem?_append_right (Nat.le_add_right _ _), Nat.add_sub_cancel_left]; exact hi) (fun i j _ _ z => by have z : X0.length + i = X0.length + j := z; omega)
  have hk2 : (Y ++ va_pl LP bx)[k - n]? = some (a, bx a) := by
    rw [List.getElem?_append_right (by omega)] at hk
    rw [← hX.1]; exact hk
  rw [List.set_append_right _ _ (by omega), hX.2, va_pl_set hD2 ha hk2]
section XMY
variable {p : Program} {l : Launch} {e : Env} {R : Room} {s : State} {m : MethodId} {args : Array Value} {below : List Frame} {meth : Method} {c : Code} {H : Heap} {locs : List Loc} {cells slots : Nat} {Q : State → Prop}
variable {pc : Nat} {ls : Array Slot} {rest st0 : List Value} {a : Array Value} {A0 : Nat → Prop} {H0 : Heap} {mc ms : Nat} {D : va_G}
/-- behind a call that changes the cell lk (place i) and the cell of a box (place k) -/
theorem xm_two {ws : va_W} {Φ : Option Value → va_W → Prop} {i k q1 q2 : Nat} {e1 e2 f1 f2 : va_E} (hr : va_Run p l e R s m args below meth c H locs cells slots mc ms (F0 m pc ls st0) rest (xQM D (va_A [(q1, e1), (q2, e2)] H.size) Φ a) (va_A [(q1, e1), (q2, e2)] H.size))
    (hP : va_P D vwCl ws H) (hD : va_D A0 ws) (hS : va_S A0 H0 H locs) (hA : ∀ q, H0.size ≤ q → A0 q) (hi : ws[i]? = some (q1, e1)) (hk : ws[k]? = some (q2, e2)) (hik : i ≠ k) {r0 : Option Value} (hΦ : ∀ r w1, Φ r w1 → r = r0 ∧ w1 = [(q1, f1), (q2, f2)])
    (kk : ∀ (H1 : Heap) (locs1 : List Loc), va_P D vwCl ((ws.set i (q1, f1)).set k (q2, f2)) H1 → va_D A0 ((ws.set i (q1, f1)).set k (q2, f2)) → va_S A0 H0 H1 locs1 → W p l e R s m args below meth c H1 locs1 (cells + mc) (slots + ms) Q (F0 m (pc + 3) ls (r0.toList ++ rest))) :
    W p l e R s m args below meth c H locs cells slots Q (F0 m pc ls st0) := by
  intro T hT X
  obtain ⟨v', st₀, t, T', L, h0, X', hL, g1, g2, ⟨r, w1, hv, hφ, hP1, hD1, hF⟩, st⟩ := hr T hT X
  cases hv
  obtain ⟨rfl, rfl⟩ := hΦ _ _ hφ
  have hf : ∀ q, va_A [(q1, e1), (q2, e2)] H.size q → A0 q := by
    intro q hq
    rcases hq with ⟨j, ee, hj⟩ | hq
    · match j, hj with
      | 0, hj => cases hj; exact hD.2 i _ hi
      | 1, hj => cases hj; exact hD.2 k _ hk
    · exact hA q (Nat.le_trans hS.1 hq)
  obtain ⟨k1, k2, k3⟩ := xm_S h0 g1 hS hf hL hF
  have hli := (List.getElem?_eq_some_iff.mp hi).1
  have hlk := (List.getElem?_eq_some_iff.mp hk).1
  have hk' : (ws.set i (q1, f1))[k]? = some (q2, e2) := by rw [List.getElem?_set_ne hik]; exact hk
  have hP2 : va_P D vwCl ((ws.set i (q1, f1)).set k (q2, f2)) T'.heap := by
    intro j x hj
    by_cases ek : j = k
    · rw [ek, List.getElem?_set_self (by rw [List.length_set]; exact hlk)] at hj
      cases hj
      rw [g1]
      exact hP1 1 _ rfl
    · rw [List.getElem?_set_ne (Ne.symm ek)] at hj
      by_cases ei : j = i
      · rw [ei, List.getElem?_set_self hli] at hj
        cases hj
        rw [g1]
        exact hP1 0 _ rfl
      · rw [List.getElem?_set_ne (Ne.symm ei)] at hj
        refine (hP j x hj).kept (k2 x.1 (hP j x hj).lt ?_)
        intro hq
        rcases hq with ⟨y, ee, hy⟩ | hq
        · match y, hy with
          | 0, hy =>
            have hy1 : q1 = x.1 := by injection hy with hy; injection hy
            exact ei (hD.1 j i x _ hj hi hy1.symm)
          | 1, hy =>
            have hy1 : q2 = x.1 := by injection hy with hy; injection hy
            exact ek (hD.1 j k x _ hj hk hy1.symm)
        · exact absurd (hP j x hj).lt (Nat.not_lt.mpr hq)
  obtain ⟨t2, a1, b1⟩ := kk T'.heap (locs ++ L) hP2 ((hD.set hi).set hk') k3 T' rfl X'
  exact ⟨t2, st t2 a1, b1⟩
end XMY
