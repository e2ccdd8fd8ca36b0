/-! The law's loop. What holds ahead of every round: the bench's and the reference's cells, and that they say the same. -/
/-- the first BC places: the bench's boxes are the reference's -/
def lB (BC : Nat) (so va : Nat → Int32) (pf : Nat → Option Nat) (LP : List Nat) (bx : Nat → va_E) : Prop :=
  (∀ i, i < BC → (pf i = none ∧ so i = 0) ∨ ∃ a, pf i = some a ∧ a ∈ LP ∧ ((bx a = .inr (0, [.int (va i)]) ∧ so i = 1) ∨ (bx a = .inr (2, [.int (va i)]) ∧ so i = 2))) ∧ ∀ i j a, i < BC → j < BC → pf i = some a → pf j = some a → i = j
def lR (n : Nat → Int32) (g : Nat → Nat → Int32) (f : Nat → Int64) : Prop := ∀ K, K < 8 → ∃ N, N < 40 ∧ n K = nI N ∧ ∀ i, i < N → f (40 * K + i) = rd K (g K i)
def lP (n : Nat → Int32) (g : Nat → Nat → Int32) (f : Nat → Int64) (so va : Nat → Int32) (gm gh gw bm bc : Int32) (pf : Nat → Option Nat) (LP : List Nat) (bx : Nat → va_E) : Prop :=
  lR n g f ∧ (gm = 0 ∨ gm = 1) ∧ (∃ GH, GH < 9 ∧ gh = nI GH) ∧ (∃ GW, GW < 9 ∧ gw = nI GW) ∧ (bm = 0 ∨ bm = 1) ∧ ∃ BC, BC < 20 ∧ bc = nI BC ∧ lB BC so va pf LP bx
def lI (A : Nat → Prop) (s : State) (dC : Nat → ClassId) (dI : Nat → Nat → Nat) (cA : Nat → ClassId) (sb t : Nat) (ls : Array Slot) (H : Heap) (locs : List Loc) : Prop :=
  ∃ (b ro b0 b1 b2 b3 b4 b5 b6 b7 b8 gr gc br pl mo mr ml ms mv lk : Nat) (ga : Nat → Nat) (n : Nat → Int32) (g : Nat → Nat → Int32) (f : Nat → Int64) (so va : Nat → Int32) (wr ca gm gh gw bm bd bc th : Int32) (pf : Nat → Option Nat) (LP : List Nat) (bx : Nat → va_E) (lf : Nat → Int64),
    lv_has ls 8 [(4, .int (nI (6 * t))), (3, .ref lk), (2, .ref mo), (1, .ref b), (0, .ref sb)] ∧ va_P (dC, dI) vwCl ([(b, .inr (5, [.ref ro, .ref gr, .ref br, .int wr, .int ca])), (ro, .inr (4, [.ref b0, .ref b1, .ref b2, .ref b3, .ref b4, .ref b5, .ref b6, .ref b7, .ref b8])), (b0, .inl (cA 0, 8, .inl n)), (b1, .inl (cA 0, 39, .inl (r0 g))), (b2, .inl (cA 1, 39, .inr (.inl (r1 g)))), (b3, .inl (cA 2, 39, .inl (r2 g))), (b4, .inl (cA 3, 39, .inl (r3 g))), (b5, .inl (cA 4, 39, .inl (r4 g))), (b6, .inl (cA 5, 39, .inl (r5 g))), (b7, .inl (cA 6, 39, .inr (.inr (.inl (r6 g))))), (b8, .inl (cA 7, 39, .inr (.inr (.inr (.inl (r7 g)))))), (gr, .inr (3, [.ref gc, .int gm, .int gh, .int gw])), (gc, .inl (cA 9, 8, .inr (.inr (.inr (.inr (fun i => some (ga i))))))), (br, .inr (1, [.ref pl, .int bm, .int bd, .int bc])), (pl, .inl (cA 8, 19, .inr (.inr (.inr (.inr pf))))), (mo, .inr (6, [.int th, .ref mr, .ref ml, .int wr, .int gm, .int gh, .int gw, .int bm, .int bd, .int bc, .int ca, .ref ms, .ref mv])), (mr, .inl (cA 1, 320, .inr (.inl f))), (ml, .inl (cA 0, 8, .inl n)), (ms, .inl (cA 0, 20, .inl so)), (mv, .inl (cA 0, 20, .inl va)), (lk, .inl (cA 1, 1, .inr (.inl lf)))] ++ (rws (cA 0) ga (gmx 8 0) ++ va_pl LP bx)) H ∧ va_D A ([(b, .inr (5, [.ref ro, .ref gr, .ref br, .int wr, .int ca])), (ro, .inr (4, [.ref b0, .ref b1, .ref b2, .ref b3, .ref b4, .ref b5, .ref b6, .ref b7, .ref b8])), (b0, .inl (cA 0, 8, .inl n)), (b1, .inl (cA 0, 39, .inl (r0 g))), (b2, .inl (cA 1, 39, .inr (.inl (r1 g)))), (b3, .inl (cA 2, 39, .inl (r2 g))), (b4, .inl (cA 3, 39, .inl (r3 g))), (b5, .inl (cA 4, 39, .inl (r4 g))), (b6, .inl (cA 5, 39, .inl (r5 g))), (b7, .inl (cA 6, 39, .inr (.inr (.inl (r6 g))))), (b8, .inl (cA 7, 39, .inr (.inr (.inr (.inl (r7 g)))))), (gr, .inr (3, [.ref gc, .int gm, .int gh, .int gw])), (gc, .inl (cA 9, 8, .inr (.inr (.inr (.inr (fun i => some (ga i))))))), (br, .inr (1, [.ref pl, .int bm, .int bd, .int bc])), (pl, .inl (cA 8, 19, .inr (.inr (.inr (.inr pf))))), (mo, .inr (6, [.int th, .ref mr, .ref ml, .int wr, .int gm, .int gh, .int gw, .int bm, .int bd, .int bc, .int ca, .ref ms, .ref mv])), (mr, .inl (cA 1, 320, .inr (.inl f))), (ml, .inl (cA 0, 8, .inl n)), (ms, .inl (cA 0, 20, .inl so)), (mv, .inl (cA 0, 20, .inl va)), (lk, .inl (cA 1, 1, .inr (.inl lf)))] ++ (rws (cA 0) ga (gmx 8 0) ++ va_pl LP bx)) ∧ va_S A s.heap H locs ∧ lP n g f so va gm gh gw bm bc pf LP bx
theorem lR_write {n : Nat → Int32} {g : Nat → Nat → Int32} {f : Nat → Int64} {K I N : Nat} {v : Int32} (h : lR n g f) (hK : K < 8) (hN : n K = nI N) (hN4 : N < 40) (hI : I < N) : lR n (gset g K I v) (vp_updL f (40 * K + I) (rd K v)) := by
  intro K' hK'
  obtain ⟨N', h1, h2, h3⟩ := h K' hK'
  refine ⟨N', h1, h2, fun i hi => ?_⟩
  by_cases e : K' = K
  · by_cases e2 : i = I
    · rw [e, e2, pk_uLs]; simp [gset]
    · rw [pk_uLn (by omega), h3 i hi]; simp [gset, e2]
  · rw [pk_uLn (by omega), h3 i hi]; simp [gset, e]
theorem rd_0 : ∀ K, K < 8 → rd K 0 = 0 := by decide +kernel
theorem lR_make {n : Nat → Int32} {g : Nat → Nat → Int32} {f : Nat → Int64} {K N : Nat} (h : lR n g f) (hK : K < 8) (hN : N < 40) : lR (upd n K (nI N)) (gz g K N) (fz f K 40) := by
  intro K' hK'
  obtain ⟨N', h1, h2, h3⟩ := h K' hK'
  by_cases e : K' = K
  · rw [e]
    refine ⟨N, hN, pk_us, fun i hi => ?_⟩
    simp only [fz, gz]
    rw [if_pos (by omega), if_pos ⟨trivial, hi⟩, rd_0 K hK]
  · refine ⟨N', h1, by rw [pk_un e]; exact h2, fun i hi => ?_⟩
    simp only [fz, gz]
    rw [if_neg (by omega), if_neg (fun z => e z.1)]
    exact h3 i hi
theorem lB_renew {N : Nat} {so va : Nat → Int32} {pf : Nat → Option Nat} {LP : List Nat} {bx : Nat → va_E} (hN : N < 20) : lB N (iz so 20) va (pz pf N) LP bx := by
  refine ⟨fun i hi => Or.inl ⟨by simp [pz, hi], by simp [iz, show i < 20 by omega]⟩, fun i j a hi hj h1 => ?_⟩
  simp [pz, hi] at h1
theorem lB_null {BC I : Nat} {so va : Nat → Int32} {pf : Nat → Option Nat} {LP : List Nat} {bx : Nat → va_E} {v : Int32} (h : lB BC so va pf LP bx) : lB BC (upd so I 0) (upd va I v) (va_up pf I none) LP bx := by
  refine ⟨fun i hi => ?_, fun i j a hi hj h1 h2 => ?_⟩
  · by_cases e : i = I
    · rw [e]; exact Or.inl ⟨va_up_self _ _ _, pk_us⟩
    · rw [va_up_ne _ _ e, pk_un e, pk_un e]; exact h.1 i hi
  · by_cases e : i = I
    · rw [e, va_up_self] at h1; cases h1
    · by_cases e2 : j = I
      · rw [e2, va_up_self] at h2; cases h2
      · rw [va_up_ne _ _ e] at h1
        rw [va_up_ne _ _ e2] at h2
        exact h.2 i j a hi hj h1 h2
theorem lB_new {BC I q : Nat} {so va : Nat → Int32} {pf : Nat → Option Nat} {LP : List Nat} {bx : Nat → va_E} {v x : Int32} {e : va_E} (h : lB BC so va pf LP bx) (hq : q ∉ LP) (he : (e = .inr (0, [.int v]) ∧ x = 1) ∨ (e = .inr (2, [.int v]) ∧ x = 2)) : lB BC (upd so I x) (upd va I v) (va_up pf I (some q)) (LP ++ [q]) (va_up bx q e) := by
  have old : ∀ i a, i < BC → pf i = some a → a ∈ LP := fun i a hi hp => by
    rcases h.1 i hi with ⟨h1, -⟩ | ⟨a', h1, h2, -⟩
    · rw [h1] at hp; cases hp
    · rw [h1] at hp; cases hp; exact h2
  refine ⟨fun i hi => ?_, fun i j a hi hj h1 h2 => ?_⟩
  · by_cases e1 : i = I
    · rw [e1]
      refine Or.inr ⟨q, va_up_self _ _ _, List.mem_append_right _ List.mem_cons_self, ?_⟩
      rw [va_up_self, pk_us, pk_us]
      exact he
    · rw [va_up_ne _ _ e1, pk_un e1, pk_un e1]
      rcases h.1 i hi with h1 | ⟨a, h1, h2, h3⟩
      · exact Or.inl h1
      · refine Or.inr ⟨a, h1, List.mem_append_left _ h2, ?_⟩
        have hne : a ≠ q := fun z => hq (z ▸ h2)
        rw [va_up_ne _ _ hne]
        exact h3
  · by_cases e1 : i = I
    · by_cases e2 : j = I
      · rw [e1, e2]
      · rw [e1, va_up_self] at h1
        rw [va_up_ne _ _ e2] at h2
        cases h1
        exact absurd (old j _ hj h2) hq
    · by_cases e2 : j = I
      · rw [e2, va_up_self] at h2
        rw [va_up_ne _ _ e1] at h1
        cases h2
        exact absurd (old i _ hi h1) hq
      · rw [va_up_ne _ _ e1] at h1
        rw [va_up_ne _ _ e2] at h2
        exact h.2 i j a hi hj h1 h2
theorem lB_set {BC I a : Nat} {so va : Nat → Int32} {pf : Nat → Option Nat} {LP : List Nat} {bx : Nat → va_E} {v : Int32} {e : va_E} (h : lB BC so va pf LP bx) (hI : I < BC) (hp : pf I = some a) (he : (e = .inr (0, [.int v]) ∧ so I = 1) ∨ (e = .inr (2, [.int v]) ∧ so I = 2)) : lB BC so (upd va I v) pf LP (va_up bx a e) := by
  refine ⟨fun i hi => ?_, h.2⟩
  rcases h.1 i hi with h1 | ⟨a', h1, h2, h3⟩
  · exact Or.inl h1
  · refine Or.inr ⟨a', h1, h2, ?_⟩
    by_cases e1 : i = I
    · rw [e1] at h1
      rw [hp] at h1
      cases h1
      rw [e1, va_up_self, pk_us]
      exact he
    · have hne : a' ≠ a := fun z => e1 (h.2 i I a hi hI (z ▸ h1) hp)
      rw [va_up_ne _ _ hne, pk_un e1]
      exact h3
/-- an index in range -/
theorem lix {p : Int32} {N : Nat} (hN : N < 2 ^ 31) (h0 : ¬ p < 0) (h1 : p < nI N) : ∃ I, I < N ∧ p = nI I ∧ p.toNatClampNeg = I := by
  obtain ⟨I, hI, rfl⟩ := nI_of h0
  have := (nI_ltI hI hN).mp h1
  exact ⟨I, this, rfl, nI_clamp hI⟩
theorem lremI {p : Int32} {M : Nat} (hM : 0 < M) (hM2 : M < 2 ^ 31) : (p - p / nI M * nI M).toInt = p.toInt.tmod M := by
  have h1 := p.toInt_lt
  have h2 := p.le_toInt
  rw [Int32.toInt_sub, Int32.toInt_mul, Int32.toInt_div, nI_toInt hM2]
  rw [Int.bmod_mul_bmod, Int.sub_bmod_bmod]
  have e : p.toInt - p.toInt.tdiv M * M = p.toInt.tmod M := by rw [Int.tmod_def, Int.mul_comm]
  rw [e]
  have g1 : (p.toInt.tmod M).natAbs < M := by
    rw [Int.natAbs_tmod]
    exact Nat.mod_lt _ hM
  exact Int.bmod_eq_of_le (by omega) (by omega)
theorem lrem {p : Int32} (M : Nat) (hM : 0 < M) (hM2 : M < 2 ^ 31) (h : ¬ p - p / nI M * nI M < 0) : ∃ N, N < M ∧ p - p / nI M * nI M = nI N := by
  have e := lremI (p := p) hM hM2
  have h0 : ¬ (p - p / nI M * nI M).toInt < (0 : Int32).toInt := fun z => h (Int32.lt_iff_toInt_lt.mpr z)
  have h0 : ¬ (p - p / nI M * nI M).toInt < 0 := h0
  rw [e] at h0
  have g1 : (p.toInt.tmod M).natAbs < M := by
    rw [Int.natAbs_tmod]
    exact Nat.mod_lt _ hM
  refine ⟨(p.toInt.tmod M).toNat, by omega, ?_⟩
  apply xi_eq
  rw [e, nI_toInt (by omega)]
  omega
theorem xP_one {D : va_G} {ws : va_W} {H : Heap} {k : Nat} {q : Nat × va_E} (hP : va_P D vwCl ws H) (hk : ws[k]? = some q) : va_P D vwCl [q] H := fun j x hj => by
  have h0 : j < 1 := (List.getElem?_eq_some_iff.mp hj).1
  rw [show j = 0 by omega] at hj
  cases hj
  exact hP k q hk
theorem lrow {X P : va_W} {cI : ClassId} {ga : Nat → Nat} {M : Nat → Nat → Int32} {i n : Nat} (hn : X.length = n) (h : i < 8) : (X ++ (rws cI ga M ++ P))[n + i]? = some (ga i, .inl (cI, 8, .inl (M i))) := by
  rw [← List.append_assoc, List.getElem?_append_left (by rw [List.length_append, hn]; simp [rws]; omega)]
  exact rws_get hn h
theorem lbox {X Y : va_W} {LP : List Nat} {bx : Nat → va_E} {a n : Nat} (hn : X.length = n) (h : a ∈ LP) : ∃ k, n ≤ k ∧ (X ++ (Y ++ va_pl LP bx))[k]? = some (a, bx a) := by
  obtain ⟨j, hj⟩ := va_pl_get (X := Y) (f := bx) h
  refine ⟨n + j, Nat.le_add_right _ _, ?_⟩
  rw [List.getElem?_append_right (by omega), show n + j - X.length = j by omega]
  exact hj
def xloop2 {σ : Type} (I Wk : Nat → σ → Prop) (N : Nat) (step : ∀ (i : Nat) (z : σ), i < N → I i z → (∀ z', I (i + 1) z' → Wk (i + 1) z') → Wk i z) (done : ∀ z, I N z → Wk N z) : ∀ (k i : Nat) (z : σ), i + k = N → I i z → Wk i z := by
  intro k
  induction k with
  | zero => intro i z h1 h2; rw [Nat.add_zero] at h1; subst h1; exact done z h2
  | succ k ih => intro i z h1 h2; exact step i z (by omega) h2 (fun z' h3 => ih (i + 1) z' (by omega) h3)
/-- what the law's walk stands on -/
def lC (p : Program) (l : Launch) (s : State) (m : MethodId) (c : Code) (sb L : Nat) (xs : Nat → Int32) (dC : Nat → ClassId) (dI : Nat → Nat → Nat) (cA : Nat → ClassId) (A : Nat → Prop) : Prop :=
  p.tables.exec = Jvm.exec ∧ c.code = cL_law ∧ c.maxLocals = 8 ∧ s.vm.findClass RL = some m.cls ∧ xC l s #[.ref sb] dC dI cA ∧ xb s s ∧ va_X sb L xs s s.heap ∧ sb < s.heap.size ∧ (∀ q, s.heap.size ≤ q → A q) ∧ (∀ q, A q → s.heap.size ≤ q) ∧ L ≤ 3072
