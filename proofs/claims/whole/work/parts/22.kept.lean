/-! Bits, out of the kit's rows to paste. -/
theorem wb_tb (n : Nat) : (lN n).toBitVec = BitVec.ofNat 64 n := rfl
theorem wb_inj {a b : Int64} (h : a.toBitVec = b.toBitVec) : a = b := Int64.toBitVec_inj.mp h
theorem wb_of32 (x : Int32) : ∃ n, n < 2 ^ 32 ∧ x = nI n := ⟨x.toBitVec.toNat, x.toBitVec.isLt, Int32.toBitVec_inj.mp (by show _ = BitVec.ofNat 32 _; simp)⟩
theorem wb_c : ∀ k, k < 64 → ((nI k).toInt64 &&& 63) = lN k := by decide +kernel
theorem wb_sm : ∀ k, k < 64 → (BitVec.ofNat 64 k).smod 64 = BitVec.ofNat 64 k := by decide +kernel
theorem wb_lt2 {a b : Nat} (h : a < b) : 2 ^ a < 2 ^ b := Nat.pow_lt_pow_right (by decide) h
theorem wb_shl (n : Nat) {k : Nat} (hk : k < 64) : lN n <<< ((nI k).toInt64 &&& 63) = lN (n * 2 ^ k) := by
  rw [wb_c k hk]
  apply wb_inj
  rw [Int64.toBitVec_shiftLeft, wb_tb, wb_tb, wb_tb, wb_sm k hk]
  apply BitVec.eq_of_toNat_eq
  rw [BitVec.shiftLeft_eq', BitVec.toNat_shiftLeft, BitVec.toNat_ofNat, BitVec.toNat_ofNat, BitVec.toNat_ofNat, Nat.mod_eq_of_lt (show k < 2 ^ 64 by omega), Nat.shiftLeft_eq, Nat.mul_mod, Nat.mod_mod, ← Nat.mul_mod]
theorem wb_and {a b : Nat} (ha : a < 2 ^ 64) (hb : b < 2 ^ 64) : lN a &&& lN b = lN (a &&& b) := by
  apply wb_inj
  rw [Int64.toBitVec_and, wb_tb, wb_tb, wb_tb]
  apply BitVec.eq_of_toNat_eq
  rw [BitVec.toNat_and, BitVec.toNat_ofNat, BitVec.toNat_ofNat, BitVec.toNat_ofNat, Nat.mod_eq_of_lt ha, Nat.mod_eq_of_lt hb, Nat.mod_eq_of_lt (Nat.and_lt_two_pow _ hb)]
theorem wb_mask {n k : Nat} (hn : n < 2 ^ 64) (hk : k < 64) : lN n &&& lN (2 ^ k - 1) = lN (n % 2 ^ k) := by
  rw [wb_and hn (by have := wb_lt2 hk; omega), Nat.and_two_pow_sub_one_eq_mod]
theorem wb_a1 {n : Nat} (hn : n < 2 ^ 64) : lN n &&& 1 = lN (n % 2) := wb_mask (k := 1) hn (by decide)
theorem pf_lI {a : Nat} (h : a < 2 ^ 63) : (lN a).toInt = (a : Int) := lg_ofNat_toInt h
theorem pf_shr {a d : Nat} {D : Int64} (hD : (D.toBitVec.smod 64).toNat = d) (h : a < 2 ^ 62) : lN a >>> D = lN (a / 2 ^ d) := by
  have hd : a / 2 ^ d ≤ a := Nat.div_le_self _ _
  apply Int64.toInt_inj.mp
  have e : (lN a >>> D).toInt = (lN a).toInt >>> d := by
    rw [← hD]
    exact BitVec.toInt_sshiftRight ..
  rw [e, Int.shiftRight_eq_div_pow, pf_lI (by omega), pf_lI (by omega)]
  rfl
/-! What the reference keeps of an int in a row of each kind. -/
theorem xi_eq {a b : Int32} (h : a.toInt = b.toInt) : a = b := Int32.toInt_inj.mp h
theorem xl_eq {a b : Int64} (h : a.toInt = b.toInt) : a = b := Int64.toInt_inj.mp h
theorem x16 (n : Nat) : (nI n).toInt16.toInt32.toInt = (n : Int).bmod 65536 := by
  rw [Int16.toInt_toInt32, Int32.toInt_toInt16, show (nI n).toInt = (n : Int).bmod (2 ^ 32) from by simp [nI]]
  exact Int.bmod_bmod_of_dvd (by decide)
theorem x8 (n : Nat) : (nI n).toInt8.toInt32.toInt = (n : Int).bmod 256 := by
  rw [Int8.toInt_toInt32, Int32.toInt_toInt8, show (nI n).toInt = (n : Int).bmod (2 ^ 32) from by simp [nI]]
  exact Int.bmod_bmod_of_dvd (by decide)
theorem xbm {n M : Nat} (h0 : 0 < M) : (n : Int).bmod M = if 2 * (n % M) < M + M % 2 then ((n % M : Nat) : Int) else ((n % M : Nat) : Int) - M := by
  unfold Int.bmod
  simp only []
  by_cases h : 2 * (n % M) < M + M % 2
  · rw [if_pos h, if_pos (by omega)]; omega
  · rw [if_neg h, if_neg (by omega)]; omega
theorem kp2a {v : Int32} (h : v &&& 65535 < 32768) : v &&& 65535 = v.toInt16.toInt32 := by
  obtain ⟨n, hn, rfl⟩ := wb_of32 v
  rw [pk_andN hn 16 (by decide)] at h ⊢
  have hl : n % 2 ^ 16 < 65536 := Nat.mod_lt _ (by decide)
  have h2 := (nI_ltI (b := 32768) (by omega) (by decide)).mp h
  apply xi_eq
  rw [nI_toInt (by omega), x16, xbm (by decide), if_pos (by omega)]
theorem kp2b {v : Int32} (h : ¬ v &&& 65535 < 32768) : (v &&& 65535) - 65536 = v.toInt16.toInt32 := by
  obtain ⟨n, hn, rfl⟩ := wb_of32 v
  rw [pk_andN hn 16 (by decide)] at h ⊢
  have hl : n % 2 ^ 16 < 65536 := Nat.mod_lt _ (by decide)
  have h2 : ¬ n % 2 ^ 16 < 32768 := fun z => h ((nI_ltI (b := 32768) (by omega) (by decide)).mpr z)
  apply xi_eq
  rw [show (65536 : Int32) = nI 65536 from rfl, pk_sub_toInt (by omega) (by decide), x16, xbm (by decide), if_neg (by omega)]
theorem kp3a {v : Int32} (h : v &&& 255 < 128) : v &&& 255 = v.toInt8.toInt32 := by
  obtain ⟨n, hn, rfl⟩ := wb_of32 v
  rw [pk_andN hn 8 (by decide)] at h ⊢
  have hl : n % 2 ^ 8 < 256 := Nat.mod_lt _ (by decide)
  have h2 := (nI_ltI (b := 128) (by omega) (by decide)).mp h
  apply xi_eq
  rw [nI_toInt (by omega), x8, xbm (by decide), if_pos (by omega)]
theorem kp3b {v : Int32} (h : ¬ v &&& 255 < 128) : (v &&& 255) - 256 = v.toInt8.toInt32 := by
  obtain ⟨n, hn, rfl⟩ := wb_of32 v
  rw [pk_andN hn 8 (by decide)] at h ⊢
  have hl : n % 2 ^ 8 < 256 := Nat.mod_lt _ (by decide)
  have h2 : ¬ n % 2 ^ 8 < 128 := fun z => h ((nI_ltI (b := 128) (by omega) (by decide)).mpr z)
  apply xi_eq
  rw [show (256 : Int32) = nI 256 from rfl, pk_sub_toInt (by omega) (by decide), x8, xbm (by decide), if_neg (by omega)]
theorem kp4 (v : Int32) : v &&& 65535 = (v.toUInt32 % 65536).toInt32 := by
  rw [pk_char, pk_and v 16 (by decide)]
theorem xneg64 {n : Nat} (h : n < 2 ^ 62) : (-lN n).toInt = -(n : Int) := by
  rw [Int64.toInt_neg, pf_lI (by omega)]
  exact Int.bmod_eq_of_le (by omega) (by omega)
theorem xabs_pos {v : Int32} {A : Nat} (hA : v.toInt.natAbs = A) (h : 0 ≤ v) : v.toInt64 = lN A := by
  have h1 : (0 : Int32).toInt ≤ v.toInt := Int32.le_iff_toInt_le.mp h
  have h2 := v.toInt_lt
  have h1 : 0 ≤ v.toInt := h1
  apply xl_eq
  rw [Int32.toInt_toInt64, pf_lI (by omega)]
  omega
theorem xabs_neg {v : Int32} {A : Nat} (hA : v.toInt.natAbs = A) (h : ¬ 0 ≤ v) : -v.toInt64 = lN A := by
  have h1 : ¬ (0 : Int32).toInt ≤ v.toInt := fun z => h (Int32.le_iff_toInt_le.mpr z)
  have h2 := v.le_toInt
  have h1 : ¬ 0 ≤ v.toInt := h1
  apply xl_eq
  rw [pf_lI (by omega), Int64.toInt_neg, Int32.toInt_toInt64, Int.bmod_eq_of_le (by omega) (by omega)]
  omega
theorem nr_pos {v : Int32} {A K c : Nat} (hA : v.toInt.natAbs = A) (hv : 0 ≤ v) (hK : K ≤ 8) (h1 : K = 0 ∨ 8388608 * 2 ^ K ≤ A) (h2 : A < 16777216 * 2 ^ K) (hc : c = Jvm.FP.Core.nearest A (2 ^ K)) : lN (c * 2 ^ K) = FP.f2l (FP.i2f v) := by
  have g1 : (0 : Int32).toInt ≤ v.toInt := Int32.le_iff_toInt_le.mp hv
  have g1 : 0 ≤ v.toInt := g1
  have g2 := v.toInt_lt
  rcases h1 with rfl | h1
  · rw [xf_small (by omega) (by omega), xabs_pos hA hv, hc]
    simp [Jvm.FP.Core.nearest, Nat.mod_one]
  · symm
    refine xf_big hA h1 h2 hK ?_
    have hle : Jvm.FP.Core.nearest A (2 ^ K) ≤ 16777216 := Jvm.FP.Core.nearest_le (Nat.two_pow_pos K) (by omega)
    have hp : 2 ^ K ≤ 2 ^ 8 := Nat.pow_le_pow_right (by decide) hK
    have hb : c * 2 ^ K ≤ 16777216 * 256 := Nat.mul_le_mul (by omega) hp
    rw [pf_lI (by omega), ← hc, show decide (v.toInt < 0) = false by simp; omega]
    rfl
theorem nr_neg {v : Int32} {A K c : Nat} (hA : v.toInt.natAbs = A) (hv : ¬ 0 ≤ v) (hK : K ≤ 8) (h1 : K = 0 ∨ 8388608 * 2 ^ K ≤ A) (h2 : A < 16777216 * 2 ^ K) (hc : c = Jvm.FP.Core.nearest A (2 ^ K)) : -lN (c * 2 ^ K) = FP.f2l (FP.i2f v) := by
  have g1 : ¬ (0 : Int32).toInt ≤ v.toInt := fun z => hv (Int32.le_iff_toInt_le.mpr z)
  have g1 : ¬ 0 ≤ v.toInt := g1
  have g2 := v.le_toInt
  rcases h1 with rfl | h1
  · rw [xf_small (by omega) (by omega), hc]
    have : Jvm.FP.Core.nearest A (2 ^ 0) * 2 ^ 0 = A := by simp [Jvm.FP.Core.nearest, Nat.mod_one]
    rw [this, ← xabs_neg hA hv]
    simp
  · symm
    refine xf_big hA h1 h2 hK ?_
    have hle : Jvm.FP.Core.nearest A (2 ^ K) ≤ 16777216 := Jvm.FP.Core.nearest_le (Nat.two_pow_pos K) (by omega)
    have hp : 2 ^ K ≤ 2 ^ 8 := Nat.pow_le_pow_right (by decide) hK
    have hb : c * 2 ^ K ≤ 16777216 * 256 := Nat.mul_le_mul (by omega) hp
    rw [xneg64 (by omega), ← hc, show decide (v.toInt < 0) = true by simp; omega]
    rfl
/-- how often the reference halves -/
theorem nr_K {A : Nat} (hA : A ≤ 2147483648) : ∃ K, K ≤ 8 ∧ (∀ k, k < K → 16777216 ≤ A / 2 ^ k) ∧ A / 2 ^ K < 16777216 ∧ (K = 0 ∨ 8388608 * 2 ^ K ≤ A) ∧ A < 16777216 * 2 ^ K := by
  obtain ⟨K, h1, h2⟩ := pk_least (fun k => A / 2 ^ k < 16777216) ⟨8, by show A / 256 < 16777216; omega⟩
  have h8 : K ≤ 8 := by
    rcases Nat.lt_or_ge 8 K with h | h
    · exact absurd (show A / 2 ^ 8 < 16777216 by show A / 256 < 16777216; omega) (h2 8 h)
    · exact h
  refine ⟨K, h8, fun k hk => Nat.not_lt.mp (h2 k hk), h1, ?_, (Nat.div_lt_iff_lt_mul (Nat.two_pow_pos K)).mp h1⟩
  cases K with
  | zero => exact Or.inl rfl
  | succ k =>
    refine Or.inr ?_
    have h3 := (Nat.le_div_iff_mul_le (Nat.two_pow_pos k)).mp (Nat.not_lt.mp (h2 k (by omega)))
    rw [Nat.pow_succ]
    omega
theorem nr_up {A K : Nat} (hK : 0 < K) (h : 2 ^ (K - 1) < A % 2 ^ K ∨ (A % 2 ^ K = 2 ^ (K - 1) ∧ A / 2 ^ K % 2 = 1)) : A / 2 ^ K + 1 = Jvm.FP.Core.nearest A (2 ^ K) := by
  have e : 2 ^ K = 2 * 2 ^ (K - 1) := by rw [← Nat.pow_succ']; congr 1; omega
  unfold Jvm.FP.Core.nearest
  rcases h with h | ⟨h, g⟩
  · rw [if_neg (by omega), if_pos (by omega)]
  · rw [if_neg (by omega), if_neg (by omega), g]
theorem nr_dn {A K : Nat} (hK : 0 < K) (h1 : ¬ 2 ^ (K - 1) < A % 2 ^ K) (h2 : ¬ A % 2 ^ K = 2 ^ (K - 1) ∨ ¬ A / 2 ^ K % 2 = 1) : A / 2 ^ K = Jvm.FP.Core.nearest A (2 ^ K) := by
  have e : 2 ^ K = 2 * 2 ^ (K - 1) := by rw [← Nat.pow_succ']; congr 1; omega
  unfold Jvm.FP.Core.nearest
  by_cases g : A % 2 ^ K = 2 ^ (K - 1)
  · rcases h2 with h2 | h2
    · exact absurd g h2
    · rw [if_neg (by omega), if_neg (by omega)]
      omega
  · rw [if_pos (by omega)]
theorem nr_0 (A : Nat) : A / 2 ^ 0 = Jvm.FP.Core.nearest A (2 ^ 0) := by simp [Jvm.FP.Core.nearest, Nat.mod_one]
section XL3
variable {p : Program} {l : Launch} {e : Env} {R : Room} {s : State} {m : MethodId} {args : Array Value} {below : List Frame} {meth : Method} {c : Code} {H : Heap} {locs : List Loc} {cells slots : Nat} {Q : State → Prop}
theorem xlcmp3 {cc : ByteArray} (hexec : p.tables.exec = Jvm.exec) (hb : c.code = cc) {x y : Int64} {pc : Nat} {ls : Array Slot} {rest : List Value} (hdg : decode cc pc = .ok (.lcmp, 1))
    (k : ∀ v : Int32, (v = 0 ↔ x = y) → (v < 0 ↔ x < y) → (0 < v ↔ y < x) → W p l e R s m args below meth c H locs cells slots Q (F0 m (pc + 1) ls (.int v :: rest))) : W p l e R s m args below meth c H locs cells slots Q (F0 m pc ls (.long y :: .long x :: rest)) := by
  exact W.lcmp hexec hb hdg (k _ (lg_cmp_eq x y) (lg_cmp_lt x y) (lg_cmp_gt x y))
end XL3
set_option maxHeartbeats 4000000 in
set_option maxRecDepth 100000 in
theorem c_nearest {l : Launch} {s0 : State} {a0 : Array Value} {dC : Nat → ClassId} {dI : Nat → Nat → Nat} {cA : Nat → ClassId} (h : xC l s0 a0 dC dI cA) (v : Int32)  : Met l yX6_nearest [Cond.code yX6_nearest cX6_nearest 10 (some .long)] ({ frames := 0, cells := 0, slots := 0, locals := 0 } : Room) (xP s0 (dC, dI) [.int v] []) (xR (some (.long (FP.f2l (FP.i2f v))))) 0 0 (fun _ => False) := by
  refine Met.ofW (cc := cX6_nearest) (maxL := 10) (ret := (some .long)) (by decide) rfl ?_
  intro p e s m args below meth c s₁ B hml hv
  obtain ⟨rfl, hb0, hP⟩ := hv
  have hx := B.exec
  have hb := B.bytes
  have hr := B.returns
  have hown : s.vm.findClass RX6 = some m.cls := findClass_of_methodNamed B.named
  have hlocks := B.notSynchronized
  have hK := h.K hb0
  have hS : va_S (fun _ : Nat => False) s.heap s.heap [] := va_S.rf
  have hz : ∀ q : Nat, (fun _ : Nat => False) q → s0.heap.size ≤ q := fun _ z => z.elim
  have hl := lv_entry ([.int v]) (n := 10) (Nat.le_of_ble_eq_true rfl)
  rw [lg_entry_eq]
  generalize (lg_sl ([.int v]) ++ List.replicate (10 - (lg_sl ([.int v])).length) Slot.unset).toArray = ls at hl ⊢
  have hl : lv_has ls 10 [(0, .int v)] := hl
  obtain ⟨A, hA⟩ : ∃ A, v.toInt.natAbs = A := ⟨_, rfl⟩
  have hA31 : A ≤ 2147483648 := by have h1 := v.toInt_lt; have h2 := v.le_toInt; omega
  obtain ⟨K, hK8, hKl, hKu, hK0, hKm⟩ := nr_K hA31
  have hdiv : ∀ k, A / 2 ^ k ≤ A := fun k => Nat.div_le_self _ _
  have hmod : A % 2 ^ K = A - A / 2 ^ K * 2 ^ K := by have := Nat.div_add_mod A (2 ^ K); rw [Nat.mul_comm] at this; omega
  have hmul : A / 2 ^ K * 2 ^ K ≤ A := Nat.div_mul_le_self _ _
  refine lv_iload_n hx hb dX6_nearest_0 rfl (lv_at hl 0 rfl) ?_
  refine lv_if_ge (tgt := 10) hx hb dX6_nearest_1 (by decide) (fun c_1 => ?_) (fun c_1 => ?_)
  · refine lv_iload_n hx hb dX6_nearest_10 rfl (lv_at hl 0 rfl) ?_
    refine lv_i2l hx hb dX6_nearest_11 rfl ?_
    rw [xabs_pos hA c_1]
    refine lv_lstore_n (lv' := [(1, .long (lN A)), (0, .int v)]) hx hb dX6_nearest_12 rfl hl (by decide) rfl (fun ls hl => ?_)
    refine lv_lload_n hx hb dX6_nearest_13 rfl (lv_at hl 0 rfl) ?_
    refine lv_lstore_n (lv' := [(3, .long (lN A)), (1, .long (lN A)), (0, .int v)]) hx hb dX6_nearest_14 rfl hl (by decide) rfl (fun ls hl => ?_)
    refine lv_iconst (v := 0) hx hb dX6_nearest_15 (by decide) ?_
    refine lv_istore (lv' := [(5, .int 0), (3, .long (lN A)), (1, .long (lN A)), (0, .int v)]) hx hb dX6_nearest_16 hl (by decide) rfl (fun ls hl => ?_)
    have hl : lv_has ls 10 [(5, .int (nI 0)), (3, .long (lN (A / 2 ^ 0))), (1, .long (lN A)), (0, .int v)] := by rw [Nat.pow_zero, Nat.div_one]; exact hl
    refine xloop (σ := Array Slot) (fun i ls => lv_has ls 10 [(5, .int (nI i)), (3, .long (lN (A / 2 ^ i))), (1, .long (lN A)), (0, .int v)]) (fun ls => W p l e _ s m _ below meth c s.heap [] _ _ _ (F0 m 18 ls [])) K ?_ ?_ ls hl
    · intro i ls hi hl ih
      have hl : lv_has ls 10 [(5, .int (nI i)), (3, .long (lN (A / 2 ^ i))), (1, .long (lN A)), (0, .int v)] := hl
      show W p l e _ s m _ below meth c s.heap [] _ _ _ (F0 m 18 ls [])
      have hd := hdiv i
      refine lv_lload_n hx hb dX6_nearest_18 rfl (lv_at hl 1 rfl) ?_
      refine lv_ldc2 hx hb hown (k_596 h hb0) dX6_nearest_19 ?_
      refine xlcmp3 hx hb dX6_nearest_22 (fun q qe ql qg => ?_)
      refine lv_if_lt (tgt := 36) hx hb dX6_nearest_23 (by decide) (fun c_2 => ?_) (fun c_2 => ?_)
      · exact absurd ((pk_lLT (b := 16777216) (by omega) (by decide)).mp (ql.mp c_2)) (Nat.not_lt.mpr (hKl i hi))
      · refine lv_lload_n hx hb dX6_nearest_26 rfl (lv_at hl 1 rfl) ?_
        refine lv_iconst (v := 1) hx hb dX6_nearest_27 (by decide) ?_
        refine lv_lshr hx hb dX6_nearest_28 (pf_shr (d := 1) (by decide) (by omega)) ?_
        rw [Nat.div_div_eq_div_mul, ← Nat.pow_add]
        refine lv_lstore_n (lv' := [(3, .long (lN (A / 2 ^ (i + 1)))), (5, .int (nI i)), (1, .long (lN A)), (0, .int v)]) hx hb dX6_nearest_29 rfl hl (by decide) rfl (fun ls hl => ?_)
        refine lv_iinc (lv' := [(5, .int (nI (i + 1))), (3, .long (lN (A / 2 ^ (i + 1)))), (1, .long (lN A)), (0, .int v)]) hx hb dX6_nearest_30 hl (k := 1) rfl (nI_1 _) (by decide) rfl (fun ls hl => ?_)
        refine lv_goto (tgt := 18) hx hb dX6_nearest_33 (by decide) ?_
        exact ih ls (lv_sub hl [0, 1, 2, 3] rfl)
    · intro ls hl
      have hl : lv_has ls 10 [(5, .int (nI K)), (3, .long (lN (A / 2 ^ K))), (1, .long (lN A)), (0, .int v)] := hl
      show W p l e _ s m _ below meth c s.heap [] _ _ _ (F0 m 18 ls [])
      have hd := hdiv K
      refine lv_lload_n hx hb dX6_nearest_18 rfl (lv_at hl 1 rfl) ?_
      refine lv_ldc2 hx hb hown (k_596 h hb0) dX6_nearest_19 ?_
      refine xlcmp3 hx hb dX6_nearest_22 (fun q qe ql qg => ?_)
      refine lv_if_lt (tgt := 36) hx hb dX6_nearest_23 (by decide) (fun c_3 => ?_) (fun c_3 => ?_)
      · refine lv_iload hx hb dX6_nearest_36 (lv_at hl 0 rfl) ?_
        refine lv_if_le (tgt := 85) hx hb dX6_nearest_38 (by decide) (fun c_4 => ?_) (fun c_4 => ?_)
        · have hk : K = 0 := by rcases Nat.eq_zero_or_pos K with z | z; exact z; exact absurd c_4 (nI_nle z (by omega))
          have hcc : A / 2 ^ K = Jvm.FP.Core.nearest A (2 ^ K) := (by rw [hk]; exact nr_0 A)
          refine lv_lload_n hx hb dX6_nearest_85 rfl (lv_at hl 1 rfl) ?_
          refine lv_iload hx hb dX6_nearest_86 (lv_at hl 0 rfl) ?_
          refine lv_lshl hx hb dX6_nearest_88 (wb_shl _ (by omega)) ?_
          refine lv_lstore_n (lv' := [(1, .long (lN ((A / 2 ^ K) * 2 ^ K))), (5, .int (nI K)), (3, .long (lN (A / 2 ^ K))), (0, .int v)]) hx hb dX6_nearest_89 rfl hl (by decide) rfl (fun ls hl => ?_)
          refine lv_iload_n hx hb dX6_nearest_90 rfl (lv_at hl 3 rfl) ?_
          refine lv_if_ge (tgt := 99) hx hb dX6_nearest_91 (by decide) (fun c_5 => ?_) (fun c_5 => ?_)
          · refine lv_lload_n hx hb dX6_nearest_99 rfl (lv_at hl 0 rfl) ?_
            rw [nr_pos hA c_1 hK8 hK0 hKm hcc]
            exact W.lret hx hb hr (fun t ht _ => ⟨rfl, ht⟩) (fun q z => nomatch z) dX6_nearest_100
          · exact absurd c_1 c_5
        · have hk : 0 < K := by rcases Nat.eq_zero_or_pos K with z | z; exact absurd (by rw [z]; decide) c_4; exact z
          refine lv_lload_n hx hb dX6_nearest_41 rfl (lv_at hl 2 rfl) ?_
          refine lv_lload_n hx hb dX6_nearest_42 rfl (lv_at hl 1 rfl) ?_
          refine lv_iload hx hb dX6_nearest_43 (lv_at hl 0 rfl) ?_
          refine lv_lshl hx hb dX6_nearest_45 (wb_shl _ (by omega)) ?_
          refine lv_lsub hx hb dX6_nearest_46 ?_
          rw [lN_sub hmul, ← hmod]
          refine lv_lstore (lv' := [(6, .long (lN (A % 2 ^ K))), (5, .int (nI K)), (3, .long (lN (A / 2 ^ K))), (1, .long (lN A)), (0, .int v)]) hx hb dX6_nearest_47 hl (by decide) rfl (fun ls hl => ?_)
          refine lv_lconst (v := 1) hx hb dX6_nearest_49 (by decide) ?_
          refine lv_iload hx hb dX6_nearest_50 (lv_at hl 1 rfl) ?_
          refine lv_iconst (v := 1) hx hb dX6_nearest_52 (by decide) ?_
          refine lv_isub hx hb dX6_nearest_53 ?_
          rw [show nI K - 1 = nI (K - 1) by rw [show nI K = nI (K - 1 + 1) by rw [Nat.sub_add_cancel hk], nI_pred]]
          refine lv_lshl hx hb dX6_nearest_54 (show (1 : Int64) <<< ((nI (K - 1)).toInt64 &&& 63) = lN (2 ^ (K - 1)) by rw [show (1 : Int64) = lN 1 from rfl, wb_shl 1 (by omega), Nat.one_mul]) ?_
          have hp8 : 2 ^ (K - 1) ≤ 2 ^ 8 := Nat.pow_le_pow_right (by decide) (by omega)
          have hr8 : A % 2 ^ K ≤ A := Nat.mod_le _ _
          refine lv_lstore (lv' := [(8, .long (lN (2 ^ (K - 1)))), (6, .long (lN (A % 2 ^ K))), (5, .int (nI K)), (3, .long (lN (A / 2 ^ K))), (1, .long (lN A)), (0, .int v)]) hx hb dX6_nearest_55 hl (by decide) rfl (fun ls hl => ?_)
          refine lv_lload hx hb dX6_nearest_57 (lv_at hl 1 rfl) ?_
          refine lv_lload hx hb dX6_nearest_59 (lv_at hl 0 rfl) ?_
          refine xlcmp3 hx hb dX6_nearest_61 (fun u ue ul ug => ?_)
          refine lv_if_gt (tgt := 81) hx hb dX6_nearest_62 (by decide) (fun c_6 => ?_) (fun c_6 => ?_)
          · refine lv_lload_n hx hb dX6_nearest_81 rfl (lv_at hl 3 rfl) ?_
            refine lv_lconst (v := 1) hx hb dX6_nearest_82 (by decide) ?_
            refine lv_ladd hx hb dX6_nearest_83 ?_
            rw [lN_1]
            refine lv_lstore_n (lv' := [(3, .long (lN (A / 2 ^ K + 1))), (8, .long (lN (2 ^ (K - 1)))), (6, .long (lN (A % 2 ^ K))), (5, .int (nI K)), (1, .long (lN A)), (0, .int v)]) hx hb dX6_nearest_84 rfl hl (by decide) rfl (fun ls hl => ?_)
            have hcc : A / 2 ^ K + 1 = Jvm.FP.Core.nearest A (2 ^ K) := (nr_up hk (Or.inl ((pk_lLT (by omega) (by omega)).mp (ug.mp c_6))))
            refine lv_lload_n hx hb dX6_nearest_85 rfl (lv_at hl 0 rfl) ?_
            refine lv_iload hx hb dX6_nearest_86 (lv_at hl 3 rfl) ?_
            refine lv_lshl hx hb dX6_nearest_88 (wb_shl _ (by omega)) ?_
            refine lv_lstore_n (lv' := [(1, .long (lN ((A / 2 ^ K + 1) * 2 ^ K))), (3, .long (lN (A / 2 ^ K + 1))), (8, .long (lN (2 ^ (K - 1)))), (6, .long (lN (A % 2 ^ K))), (5, .int (nI K)), (0, .int v)]) hx hb dX6_nearest_89 rfl hl (by decide) rfl (fun ls hl => ?_)
            refine lv_iload_n hx hb dX6_nearest_90 rfl (lv_at hl 5 rfl) ?_
            refine lv_if_ge (tgt := 99) hx hb dX6_nearest_91 (by decide) (fun c_7 => ?_) (fun c_7 => ?_)
            · refine lv_lload_n hx hb dX6_nearest_99 rfl (lv_at hl 0 rfl) ?_
              rw [nr_pos hA c_1 hK8 hK0 hKm hcc]
              exact W.lret hx hb hr (fun t ht _ => ⟨rfl, ht⟩) (fun q z => nomatch z) dX6_nearest_100
            · exact absurd c_1 c_7
          · have hng : ¬ 2 ^ (K - 1) < A % 2 ^ K := fun z => c_6 (ug.mpr ((pk_lLT (by omega) (by omega)).mpr z))
            refine lv_lload hx hb dX6_nearest_65 (lv_at hl 1 rfl) ?_
            refine lv_lload hx hb dX6_nearest_67 (lv_at hl 0 rfl) ?_
            refine xlcmp3 hx hb dX6_nearest_69 (fun x xe xl xg => ?_)
            refine lv_if_ne (tgt := 85) hx hb dX6_nearest_70 (by decide) (fun c_8 => ?_) (fun c_8 => ?_)
            · have hcc : A / 2 ^ K = Jvm.FP.Core.nearest A (2 ^ K) := (nr_dn hk hng (Or.inl (fun z => c_8 (xe.mpr ((pk_lEQ (by omega) (by omega)).mpr z)))))
              refine lv_lload_n hx hb dX6_nearest_85 rfl (lv_at hl 3 rfl) ?_
              refine lv_iload hx hb dX6_nearest_86 (lv_at hl 2 rfl) ?_
              refine lv_lshl hx hb dX6_nearest_88 (wb_shl _ (by omega)) ?_
              refine lv_lstore_n (lv' := [(1, .long (lN ((A / 2 ^ K) * 2 ^ K))), (8, .long (lN (2 ^ (K - 1)))), (6, .long (lN (A % 2 ^ K))), (5, .int (nI K)), (3, .long (lN (A / 2 ^ K))), (0, .int v)]) hx hb dX6_nearest_89 rfl hl (by decide) rfl (fun ls hl => ?_)
              refine lv_iload_n hx hb dX6_nearest_90 rfl (lv_at hl 5 rfl) ?_
              refine lv_if_ge (tgt := 99) hx hb dX6_nearest_91 (by decide) (fun c_9 => ?_) (fun c_9 => ?_)
              · refine lv_lload_n hx hb dX6_nearest_99 rfl (lv_at hl 0 rfl) ?_
                rw [nr_pos hA c_1 hK8 hK0 hKm hcc]
                exact W.lret hx hb hr (fun t ht _ => ⟨rfl, ht⟩) (fun q z => nomatch z) dX6_nearest_100
              · exact absurd c_1 c_9
            · have heq : A % 2 ^ K = 2 ^ (K - 1) := (pk_lEQ (by omega) (by omega)).mp (xe.mp c_8)
              refine lv_lload_n hx hb dX6_nearest_73 rfl (lv_at hl 3 rfl) ?_
              refine lv_lconst (v := 1) hx hb dX6_nearest_74 (by decide) ?_
              refine lv_land hx hb dX6_nearest_75 ?_
              rw [wb_a1 (by omega)]
              refine lv_lconst (v := 1) hx hb dX6_nearest_76 (by decide) ?_
              refine xlcmp3 hx hb dX6_nearest_77 (fun o oe ol og => ?_)
              refine lv_if_ne (tgt := 85) hx hb dX6_nearest_78 (by decide) (fun c_10 => ?_) (fun c_10 => ?_)
              · have hcc : A / 2 ^ K = Jvm.FP.Core.nearest A (2 ^ K) := (nr_dn hk hng (Or.inr (fun z => c_10 (oe.mpr (by rw [z]; rfl)))))
                refine lv_lload_n hx hb dX6_nearest_85 rfl (lv_at hl 3 rfl) ?_
                refine lv_iload hx hb dX6_nearest_86 (lv_at hl 2 rfl) ?_
                refine lv_lshl hx hb dX6_nearest_88 (wb_shl _ (by omega)) ?_
                refine lv_lstore_n (lv' := [(1, .long (lN ((A / 2 ^ K) * 2 ^ K))), (8, .long (lN (2 ^ (K - 1)))), (6, .long (lN (A % 2 ^ K))), (5, .int (nI K)), (3, .long (lN (A / 2 ^ K))), (0, .int v)]) hx hb dX6_nearest_89 rfl hl (by decide) rfl (fun ls hl => ?_)
                refine lv_iload_n hx hb dX6_nearest_90 rfl (lv_at hl 5 rfl) ?_
                refine lv_if_ge (tgt := 99) hx hb dX6_nearest_91 (by decide) (fun c_11 => ?_) (fun c_11 => ?_)
                · refine lv_lload_n hx hb dX6_nearest_99 rfl (lv_at hl 0 rfl) ?_
                  rw [nr_pos hA c_1 hK8 hK0 hKm hcc]
                  exact W.lret hx hb hr (fun t ht _ => ⟨rfl, ht⟩) (fun q z => nomatch z) dX6_nearest_100
                · exact absurd c_1 c_11
              · refine lv_lload_n hx hb dX6_nearest_81 rfl (lv_at hl 3 rfl) ?_
                refine lv_lconst (v := 1) hx hb dX6_nearest_82 (by decide) ?_
                refine lv_ladd hx hb dX6_nearest_83 ?_
                rw [lN_1]
                refine lv_lstore_n (lv' := [(3, .long (lN (A / 2 ^ K + 1))), (8, .long (lN (2 ^ (K - 1)))), (6, .long (lN (A % 2 ^ K))), (5, .int (nI K)), (1, .long (lN A)), (0, .int v)]) hx hb dX6_nearest_84 rfl hl (by decide) rfl (fun ls hl => ?_)
                have hcc : A / 2 ^ K + 1 = Jvm.FP.Core.nearest A (2 ^ K) := (nr_up hk (Or.inr ⟨heq, (pk_lEQ (b := 1) (by omega) (by decide)).mp (oe.mp c_10)⟩))
                refine lv_lload_n hx hb dX6_nearest_85 rfl (lv_at hl 0 rfl) ?_
                refine lv_iload hx hb dX6_nearest_86 (lv_at hl 3 rfl) ?_
                refine lv_lshl hx hb dX6_nearest_88 (wb_shl _ (by omega)) ?_
                refine lv_lstore_n (lv' := [(1, .long (lN ((A / 2 ^ K + 1) * 2 ^ K))), (3, .long (lN (A / 2 ^ K + 1))), (8, .long (lN (2 ^ (K - 1)))), (6, .long (lN (A % 2 ^ K))), (5, .int (nI K)), (0, .int v)]) hx hb dX6_nearest_89 rfl hl (by decide) rfl (fun ls hl => ?_)
                refine lv_iload_n hx hb dX6_nearest_90 rfl (lv_at hl 5 rfl) ?_
                refine lv_if_ge (tgt := 99) hx hb dX6_nearest_91 (by decide) (fun c_12 => ?_) (fun c_12 => ?_)
                · refine lv_lload_n hx hb dX6_nearest_99 rfl (lv_at hl 0 rfl) ?_
                  rw [nr_pos hA c_1 hK8 hK0 hKm hcc]
                  exact W.lret hx hb hr (fun t ht _ => ⟨rfl, ht⟩) (fun q z => nomatch z) dX6_nearest_100
                · exact absurd c_1 c_12
      · exact absurd (ql.mpr ((pk_lLT (b := 16777216) (by omega) (by decide)).mpr hKu)) c_3
  · refine lv_iload_n hx hb dX6_nearest_4 rfl (lv_at hl 0 rfl) ?_
    refine lv_i2l hx hb dX6_nearest_5 rfl ?_
    refine lv_lneg hx hb dX6_nearest_6 ?_
    rw [xabs_neg hA c_1]
    refine lv_goto (tgt := 12) hx hb dX6_nearest_7 (by decide) ?_
    refine lv_lstore_n (lv' := [(1, .long (lN A)), (0, .int v)]) hx hb dX6_nearest_12 rfl hl (by decide) rfl (fun ls hl => ?_)
    refine lv_lload_n hx hb dX6_nearest_13 rfl (lv_at hl 0 rfl) ?_
    refine lv_lstore_n (lv' := [(3, .long (lN A)), (1, .long (lN A)), (0, .int v)]) hx hb dX6_nearest_14 rfl hl (by decide) rfl (fun ls hl => ?_)
    refine lv_iconst (v := 0) hx hb dX6_nearest_15 (by decide) ?_
    refine lv_istore (lv' := [(5, .int 0), (3, .long (lN A)), (1, .long (lN A)), (0, .int v)]) hx hb dX6_nearest_16 hl (by decide) rfl (fun ls hl => ?_)
    have hl : lv_has ls 10 [(5, .int (nI 0)), (3, .long (lN (A / 2 ^ 0))), (1, .long (lN A)), (0, .int v)] := by rw [Nat.pow_zero, Nat.div_one]; exact hl
    refine xloop (σ := Array Slot) (fun i ls => lv_has ls 10 [(5, .int (nI i)), (3, .long (lN (A / 2 ^ i))), (1, .long (lN A)), (0, .int v)]) (fun ls => W p l e _ s m _ below meth c s.heap [] _ _ _ (F0 m 18 ls [])) K ?_ ?_ ls hl
    · intro i ls hi hl ih
      have hl : lv_has ls 10 [(5, .int (nI i)), (3, .long (lN (A / 2 ^ i))), (1, .long (lN A)), (0, .int v)] := hl
      show W p l e _ s m _ below meth c s.heap [] _ _ _ (F0 m 18 ls [])
      have hd := hdiv i
      refine lv_lload_n hx hb dX6_nearest_18 rfl (lv_at hl 1 rfl) ?_
      refine lv_ldc2 hx hb hown (k_596 h hb0) dX6_nearest_19 ?_
      refine xlcmp3 hx hb dX6_nearest_22 (fun q qe ql qg => ?_)
      refine lv_if_lt (tgt := 36) hx hb dX6_nearest_23 (by decide) (fun c_13 => ?_) (fun c_13 => ?_)
      · exact absurd ((pk_lLT (b := 16777216) (by omega) (by decide)).mp (ql.mp c_13)) (Nat.not_lt.mpr (hKl i hi))
      · refine lv_lload_n hx hb dX6_nearest_26 rfl (lv_at hl 1 rfl) ?_
        refine lv_iconst (v := 1) hx hb dX6_nearest_27 (by decide) ?_
        refine lv_lshr hx hb dX6_nearest_28 (pf_shr (d := 1) (by decide) (by omega)) ?_
        rw [Nat.div_div_eq_div_mul, ← Nat.pow_add]
        refine lv_lstore_n (lv' := [(3, .long (lN (A / 2 ^ (i + 1)))), (5, .int (nI i)), (1, .long (lN A)), (0, .int v)]) hx hb dX6_nearest_29 rfl hl (by decide) rfl (fun ls hl => ?_)
        refine lv_iinc (lv' := [(5, .int (nI (i + 1))), (3, .long (lN (A / 2 ^ (i + 1)))), (1, .long (lN A)), (0, .int v)]) hx hb dX6_nearest_30 hl (k := 1) rfl (nI_1 _) (by decide) rfl (fun ls hl => ?_)
        refine lv_goto (tgt := 18) hx hb dX6_nearest_33 (by decide) ?_
        exact ih ls (lv_sub hl [0, 1, 2, 3] rfl)
    · intro ls hl
      have hl : lv_has ls 10 [(5, .int (nI K)), (3, .long (lN (A / 2 ^ K))), (1, .long (lN A)), (0, .int v)] := hl
      show W p l e _ s m _ below meth c s.heap [] _ _ _ (F0 m 18 ls [])
      have hd := hdiv K
      refine lv_lload_n hx hb dX6_nearest_18 rfl (lv_at hl 1 rfl) ?_
      refine lv_ldc2 hx hb hown (k_596 h hb0) dX6_nearest_19 ?_
      refine xlcmp3 hx hb dX6_nearest_22 (fun q qe ql qg => ?_)
      refine lv_if_lt (tgt := 36) hx hb dX6_nearest_23 (by decide) (fun c_14 => ?_) (fun c_14 => ?_)
      · refine lv_iload hx hb dX6_nearest_36 (lv_at hl 0 rfl) ?_
        refine lv_if_le (tgt := 85) hx hb dX6_nearest_38 (by decide) (fun c_15 => ?_) (fun c_15 => ?_)
        · have hk : K = 0 := by rcases Nat.eq_zero_or_pos K with z | z; exact z; exact absurd c_15 (nI_nle z (by omega))
          have hcc : A / 2 ^ K = Jvm.FP.Core.nearest A (2 ^ K) := (by rw [hk]; exact nr_0 A)
          refine lv_lload_n hx hb dX6_nearest_85 rfl (lv_at hl 1 rfl) ?_
          refine lv_iload hx hb dX6_nearest_86 (lv_at hl 0 rfl) ?_
          refine lv_lshl hx hb dX6_nearest_88 (wb_shl _ (by omega)) ?_
          refine lv_lstore_n (lv' := [(1, .long (lN ((A / 2 ^ K) * 2 ^ K))), (5, .int (nI K)), (3, .long (lN (A / 2 ^ K))), (0, .int v)]) hx hb dX6_nearest_89 rfl hl (by decide) rfl (fun ls hl => ?_)
          refine lv_iload_n hx hb dX6_nearest_90 rfl (lv_at hl 3 rfl) ?_
          refine lv_if_ge (tgt := 99) hx hb dX6_nearest_91 (by decide) (fun c_16 => ?_) (fun c_16 => ?_)
          · exact absurd c_16 c_1
          · refine lv_lload_n hx hb dX6_nearest_94 rfl (lv_at hl 0 rfl) ?_
            refine lv_lneg hx hb dX6_nearest_95 ?_
            rw [nr_neg hA c_1 hK8 hK0 hKm hcc]
            refine lv_goto (tgt := 100) hx hb dX6_nearest_96 (by decide) ?_
            exact W.lret hx hb hr (fun t ht _ => ⟨rfl, ht⟩) (fun q z => nomatch z) dX6_nearest_100
        · have hk : 0 < K := by rcases Nat.eq_zero_or_pos K with z | z; exact absurd (by rw [z]; decide) c_15; exact z
          refine lv_lload_n hx hb dX6_nearest_41 rfl (lv_at hl 2 rfl) ?_
          refine lv_lload_n hx hb dX6_nearest_42 rfl (lv_at hl 1 rfl) ?_
          refine lv_iload hx hb dX6_nearest_43 (lv_at hl 0 rfl) ?_
          refine lv_lshl hx hb dX6_nearest_45 (wb_shl _ (by omega)) ?_
          refine lv_lsub hx hb dX6_nearest_46 ?_
          rw [lN_sub hmul, ← hmod]
          refine lv_lstore (lv' := [(6, .long (lN (A % 2 ^ K))), (5, .int (nI K)), (3, .long (lN (A / 2 ^ K))), (1, .long (lN A)), (0, .int v)]) hx hb dX6_nearest_47 hl (by decide) rfl (fun ls hl => ?_)
          refine lv_lconst (v := 1) hx hb dX6_nearest_49 (by decide) ?_
          refine lv_iload hx hb dX6_nearest_50 (lv_at hl 1 rfl) ?_
          refine lv_iconst (v := 1) hx hb dX6_nearest_52 (by decide) ?_
          refine lv_isub hx hb dX6_nearest_53 ?_
          rw [show nI K - 1 = nI (K - 1) by rw [show nI K = nI (K - 1 + 1) by rw [Nat.sub_add_cancel hk], nI_pred]]
          refine lv_lshl hx hb dX6_nearest_54 (show (1 : Int64) <<< ((nI (K - 1)).toInt64 &&& 63) = lN (2 ^ (K - 1)) by rw [show (1 : Int64) = lN 1 from rfl, wb_shl 1 (by omega), Nat.one_mul]) ?_
          have hp8 : 2 ^ (K - 1) ≤ 2 ^ 8 := Nat.pow_le_pow_right (by decide) (by omega)
          have hr8 : A % 2 ^ K ≤ A := Nat.mod_le _ _
          refine lv_lstore (lv' := [(8, .long (lN (2 ^ (K - 1)))), (6, .long (lN (A % 2 ^ K))), (5, .int (nI K)), (3, .long (lN (A / 2 ^ K))), (1, .long (lN A)), (0, .int v)]) hx hb dX6_nearest_55 hl (by decide) rfl (fun ls hl => ?_)
          refine lv_lload hx hb dX6_nearest_57 (lv_at hl 1 rfl) ?_
          refine lv_lload hx hb dX6_nearest_59 (lv_at hl 0 rfl) ?_
          refine xlcmp3 hx hb dX6_nearest_61 (fun u ue ul ug => ?_)
          refine lv_if_gt (tgt := 81) hx hb dX6_nearest_62 (by decide) (fun c_17 => ?_) (fun c_17 => ?_)
          · refine lv_lload_n hx hb dX6_nearest_81 rfl (lv_at hl 3 rfl) ?_
            refine lv_lconst (v := 1) hx hb dX6_nearest_82 (by decide) ?_
            refine lv_ladd hx hb dX6_nearest_83 ?_
            rw [lN_1]
            refine lv_lstore_n (lv' := [(3, .long (lN (A / 2 ^ K + 1))), (8, .long (lN (2 ^ (K - 1)))), (6, .long (lN (A % 2 ^ K))), (5, .int (nI K)), (1, .long (lN A)), (0, .int v)]) hx hb dX6_nearest_84 rfl hl (by decide) rfl (fun ls hl => ?_)
            have hcc : A / 2 ^ K + 1 = Jvm.FP.Core.nearest A (2 ^ K) := (nr_up hk (Or.inl ((pk_lLT (by omega) (by omega)).mp (ug.mp c_17))))
            refine lv_lload_n hx hb dX6_nearest_85 rfl (lv_at hl 0 rfl) ?_
            refine lv_iload hx hb dX6_nearest_86 (lv_at hl 3 rfl) ?_
            refine lv_lshl hx hb dX6_nearest_88 (wb_shl _ (by omega)) ?_
            refine lv_lstore_n (lv' := [(1, .long (lN ((A / 2 ^ K + 1) * 2 ^ K))), (3, .long (lN (A / 2 ^ K + 1))), (8, .long (lN (2 ^ (K - 1)))), (6, .long (lN (A % 2 ^ K))), (5, .int (nI K)), (0, .int v)]) hx hb dX6_nearest_89 rfl hl (by decide) rfl (fun ls hl => ?_)
            refine lv_iload_n hx hb dX6_nearest_90 rfl (lv_at hl 5 rfl) ?_
            refine lv_if_ge (tgt := 99) hx hb dX6_nearest_91 (by decide) (fun c_18 => ?_) (fun c_18 => ?_)
            · exact absurd c_18 c_1
            · refine lv_lload_n hx hb dX6_nearest_94 rfl (lv_at hl 0 rfl) ?_
              refine lv_lneg hx hb dX6_nearest_95 ?_
              rw [nr_neg hA c_1 hK8 hK0 hKm hcc]
              refine lv_goto (tgt := 100) hx hb dX6_nearest_96 (by decide) ?_
              exact W.lret hx hb hr (fun t ht _ => ⟨rfl, ht⟩) (fun q z => nomatch z) dX6_nearest_100
          · have hng : ¬ 2 ^ (K - 1) < A % 2 ^ K := fun z => c_17 (ug.mpr ((pk_lLT (by omega) (by omega)).mpr z))
            refine lv_lload hx hb dX6_nearest_65 (lv_at hl 1 rfl) ?_
            refine lv_lload hx hb dX6_nearest_67 (lv_at hl 0 rfl) ?_
            refine xlcmp3 hx hb dX6_nearest_69 (fun x xe xl xg => ?_)
            refine lv_if_ne (tgt := 85) hx hb dX6_nearest_70 (by decide) (fun c_19 => ?_) (fun c_19 => ?_)
            · have hcc : A / 2 ^ K = Jvm.FP.Core.nearest A (2 ^ K) := (nr_dn hk hng (Or.inl (fun z => c_19 (xe.mpr ((pk_lEQ (by omega) (by omega)).mpr z)))))
              refine lv_lload_n hx hb dX6_nearest_85 rfl (lv_at hl 3 rfl) ?_
              refine lv_iload hx hb dX6_nearest_86 (lv_at hl 2 rfl) ?_
              refine lv_lshl hx hb dX6_nearest_88 (wb_shl _ (by omega)) ?_
              refine lv_lstore_n (lv' := [(1, .long (lN ((A / 2 ^ K) * 2 ^ K))), (8, .long (lN (2 ^ (K - 1)))), (6, .long (lN (A % 2 ^ K))), (5, .int (nI K)), (3, .long (lN (A / 2 ^ K))), (0, .int v)]) hx hb dX6_nearest_89 rfl hl (by decide) rfl (fun ls hl => ?_)
              refine lv_iload_n hx hb dX6_nearest_90 rfl (lv_at hl 5 rfl) ?_
              refine lv_if_ge (tgt := 99) hx hb dX6_nearest_91 (by decide) (fun c_20 => ?_) (fun c_20 => ?_)
              · exact absurd c_20 c_1
              · refine lv_lload_n hx hb dX6_nearest_94 rfl (lv_at hl 0 rfl) ?_
                refine lv_lneg hx hb dX6_nearest_95 ?_
                rw [nr_neg hA c_1 hK8 hK0 hKm hcc]
                refine lv_goto (tgt := 100) hx hb dX6_nearest_96 (by decide) ?_
                exact W.lret hx hb hr (fun t ht _ => ⟨rfl, ht⟩) (fun q z => nomatch z) dX6_nearest_100
            · have heq : A % 2 ^ K = 2 ^ (K - 1) := (pk_lEQ (by omega) (by omega)).mp (xe.mp c_19)
              refine lv_lload_n hx hb dX6_nearest_73 rfl (lv_at hl 3 rfl) ?_
              refine lv_lconst (v := 1) hx hb dX6_nearest_74 (by decide) ?_
              refine lv_land hx hb dX6_nearest_75 ?_
              rw [wb_a1 (by omega)]
              refine lv_lconst (v := 1) hx hb dX6_nearest_76 (by decide) ?_
              refine xlcmp3 hx hb dX6_nearest_77 (fun o oe ol og => ?_)
              refine lv_if_ne (tgt := 85) hx hb dX6_nearest_78 (by decide) (fun c_21 => ?_) (fun c_21 => ?_)
              · have hcc : A / 2 ^ K = Jvm.FP.Core.nearest A (2 ^ K) := (nr_dn hk hng (Or.inr (fun z => c_21 (oe.mpr (by rw [z]; rfl)))))
                refine lv_lload_n hx hb dX6_nearest_85 rfl (lv_at hl 3 rfl) ?_
                refine lv_iload hx hb dX6_nearest_86 (lv_at hl 2 rfl) ?_
                refine lv_lshl hx hb dX6_nearest_88 (wb_shl _ (by omega)) ?_
                refine lv_lstore_n (lv' := [(1, .long (lN ((A / 2 ^ K) * 2 ^ K))), (8, .long (lN (2 ^ (K - 1)))), (6, .long (lN (A % 2 ^ K))), (5, .int (nI K)), (3, .long (lN (A / 2 ^ K))), (0, .int v)]) hx hb dX6_nearest_89 rfl hl (by decide) rfl (fun ls hl => ?_)
                refine lv_iload_n hx hb dX6_nearest_90 rfl (lv_at hl 5 rfl) ?_
                refine lv_if_ge (tgt := 99) hx hb dX6_nearest_91 (by decide) (fun c_22 => ?_) (fun c_22 => ?_)
                · exact absurd c_22 c_1
                · refine lv_lload_n hx hb dX6_nearest_94 rfl (lv_at hl 0 rfl) ?_
                  refine lv_lneg hx hb dX6_nearest_95 ?_
                  rw [nr_neg hA c_1 hK8 hK0 hKm hcc]
                  refine lv_goto (tgt := 100) hx hb dX6_nearest_96 (by decide) ?_
                  exact W.lret hx hb hr (fun t ht _ => ⟨rfl, ht⟩) (fun q z => nomatch z) dX6_nearest_100
              · refine lv_lload_n hx hb dX6_nearest_81 rfl (lv_at hl 3 rfl) ?_
                refine lv_lconst (v := 1) hx hb dX6_nearest_82 (by decide) ?_
                refine lv_ladd hx hb dX6_nearest_83 ?_
                rw [lN_1]
                refine lv_lstore_n (lv' := [(3, .long (lN (A / 2 ^ K + 1))), (8, .long (lN (2 ^ (K - 1)))), (6, .long (lN (A % 2 ^ K))), (5, .int (nI K)), (1, .long (lN A)), (0, .int v)]) hx hb dX6_nearest_84 rfl hl (by decide) rfl (fun ls hl => ?_)
                have hcc : A / 2 ^ K + 1 = Jvm.FP.Core.nearest A (2 ^ K) := (nr_up hk (Or.inr ⟨heq, (pk_lEQ (b := 1) (by omega) (by decide)).mp (oe.mp c_21)⟩))
                refine lv_lload_n hx hb dX6_nearest_85 rfl (lv_at hl 0 rfl) ?_
                refine lv_iload hx hb dX6_nearest_86 (lv_at hl 3 rfl) ?_
                refine lv_lshl hx hb dX6_nearest_88 (wb_shl _ (by omega)) ?_
                refine lv_lstore_n (lv' := [(1, .long (lN ((A / 2 ^ K + 1) * 2 ^ K))), (3, .long (lN (A / 2 ^ K + 1))), (8, .long (lN (2 ^ (K - 1)))), (6, .long (lN (A % 2 ^ K))), (5, .int (nI K)), (0, .int v)]) hx hb dX6_nearest_89 rfl hl (by decide) rfl (fun ls hl => ?_)
                refine lv_iload_n hx hb dX6_nearest_90 rfl (lv_at hl 5 rfl) ?_
                refine lv_if_ge (tgt := 99) hx hb dX6_nearest_91 (by decide) (fun c_23 => ?_) (fun c_23 => ?_)
                · exact absurd c_23 c_1
                · refine lv_lload_n hx hb dX6_nearest_94 rfl (lv_at hl 0 rfl) ?_
                  refine lv_lneg hx hb dX6_nearest_95 ?_
                  rw [nr_neg hA c_1 hK8 hK0 hKm hcc]
                  refine lv_goto (tgt := 100) hx hb dX6_nearest_96 (by decide) ?_
                  exact W.lret hx hb hr (fun t ht _ => ⟨rfl, ht⟩) (fun q z => nomatch z) dX6_nearest_100
      · exact absurd (ql.mpr ((pk_lLT (b := 16777216) (by omega) (by decide)).mpr hKu)) c_14
set_option maxHeartbeats 4000000 in
set_option maxRecDepth 100000 in
theorem c_kept {l : Launch} {s0 : State} {a0 : Array Value} {dC : Nat → ClassId} {dI : Nat → Nat → Nat} {cA : Nat → ClassId} (h : xC l s0 a0 dC dI cA) (K : Nat) (v : Int32) (hK8 : K < 8) : Met l yX6_kept [Cond.code yX6_kept cX6_kept 3 (some .long)] ({ frames := 1, cells := 0, slots := 0, locals := 40 } : Room) (xP s0 (dC, dI) [.int (nI K), .int v] []) (xR (some (.long (rd K v)))) 0 0 (fun _ => False) := by
  refine Met.ofW (cc := cX6_kept) (maxL := 3) (ret := (some .long)) (by decide) rfl ?_
  intro p e s m args below meth c s₁ B hml hv
  obtain ⟨rfl, hb0, hP⟩ := hv
  have hx := B.exec
  have hb := B.bytes
  have hr := B.returns
  have hown : s.vm.findClass RX6 = some m.cls := findClass_of_methodNamed B.named
  have hlocks := B.notSynchronized
  have hK := h.K hb0
  have hS : va_S (fun _ : Nat => False) s.heap s.heap [] := va_S.rf
  have hz : ∀ q : Nat, (fun _ : Nat => False) q → s0.heap.size ≤ q := fun _ z => z.elim
  have hl := lv_entry ([.int (nI K), .int v]) (n := 3) (Nat.le_of_ble_eq_true rfl)
  rw [lg_entry_eq]
  generalize (lg_sl ([.int (nI K), .int v]) ++ List.replicate (3 - (lg_sl ([.int (nI K), .int v])).length) Slot.unset).toArray = ls at hl ⊢
  have hl : lv_has ls 3 [(0, .int (nI K)), (1, .int v)] := hl
  refine lv_iload_n hx hb dX6_kept_0 rfl (lv_at hl 0 rfl) ?_
  have hk : K = 0 ∨ K = 1 ∨ K = 2 ∨ K = 3 ∨ K = 4 ∨ K = 5 ∨ K = 6 ∨ K = 7 := by omega
  rcases hk with rfl | rfl | rfl | rfl | rfl | rfl | rfl | rfl
  · refine lv_tableOut (tgt := 104) hx hb dX6_kept_1 (by decide) (by decide) ?_
    refine lv_iload_n hx hb dX6_kept_104 rfl (lv_at hl 1 rfl) ?_
    refine lv_i2l hx hb dX6_kept_105 rfl ?_
    exact W.lret hx hb hr (fun t ht _ => ⟨rfl, ht⟩) (fun q z => nomatch z) dX6_kept_106
  · refine lv_tableOut (tgt := 104) hx hb dX6_kept_1 (by decide) (by decide) ?_
    refine lv_iload_n hx hb dX6_kept_104 rfl (lv_at hl 1 rfl) ?_
    refine lv_i2l hx hb dX6_kept_105 rfl ?_
    exact W.lret hx hb hr (fun t ht _ => ⟨rfl, ht⟩) (fun q z => nomatch z) dX6_kept_106
  · refine lv_tableIn (off := 35) (tgt := 36) hx hb dX6_kept_1 (by decide) (by decide) (by decide) (by decide) ?_
    refine lv_iload_n hx hb dX6_kept_36 rfl (lv_at hl 1 rfl) ?_
    refine lv_ldc hx hb hown (k_590 h hb0) dX6_kept_37 ?_
    refine lv_iand hx hb dX6_kept_39 ?_
    refine lv_istore_n (lv' := [(2, .int (v &&& 65535)), (0, .int (nI 2)), (1, .int v)]) hx hb dX6_kept_40 rfl hl (by decide) rfl (fun ls hl => ?_)
    refine lv_iload_n hx hb dX6_kept_41 rfl (lv_at hl 0 rfl) ?_
    refine lv_ldc hx hb hown (k_591 h hb0) dX6_kept_42 ?_
    refine lv_icmp_ge (tgt := 52) hx hb dX6_kept_44 (by decide) (fun c_1 => ?_) (fun c_1 => ?_)
    · refine lv_iload_n hx hb dX6_kept_52 rfl (lv_at hl 0 rfl) ?_
      refine lv_ldc hx hb hown (k_592 h hb0) dX6_kept_53 ?_
      refine lv_isub hx hb dX6_kept_55 ?_
      refine lv_i2l hx hb dX6_kept_56 rfl ?_
      rw [show ((v &&& 65535) - 65536).toInt64 = rd 2 v from congrArg Int32.toInt64 (kp2b (Int32.not_lt.mpr c_1))]
      exact W.lret hx hb hr (fun t ht _ => ⟨rfl, ht⟩) (fun q z => nomatch z) dX6_kept_57
    · refine lv_iload_n hx hb dX6_kept_47 rfl (lv_at hl 0 rfl) ?_
      refine lv_i2l hx hb dX6_kept_48 rfl ?_
      refine lv_goto (tgt := 57) hx hb dX6_kept_49 (by decide) ?_
      rw [show (v &&& 65535).toInt64 = rd 2 v from congrArg Int32.toInt64 (kp2a (Int32.not_le.mp c_1))]
      exact W.lret hx hb hr (fun t ht _ => ⟨rfl, ht⟩) (fun q z => nomatch z) dX6_kept_57
  · refine lv_tableIn (off := 57) (tgt := 58) hx hb dX6_kept_1 (by decide) (by decide) (by decide) (by decide) ?_
    refine lv_iload_n hx hb dX6_kept_58 rfl (lv_at hl 1 rfl) ?_
    refine lv_sipush (v := 255) hx hb dX6_kept_59 (by decide) ?_
    refine lv_iand hx hb dX6_kept_62 ?_
    refine lv_istore_n (lv' := [(2, .int (v &&& 255)), (0, .int (nI 3)), (1, .int v)]) hx hb dX6_kept_63 rfl hl (by decide) rfl (fun ls hl => ?_)
    refine lv_iload_n hx hb dX6_kept_64 rfl (lv_at hl 0 rfl) ?_
    refine lv_sipush (v := 128) hx hb dX6_kept_65 (by decide) ?_
    refine lv_icmp_ge (tgt := 76) hx hb dX6_kept_68 (by decide) (fun c_2 => ?_) (fun c_2 => ?_)
    · refine lv_iload_n hx hb dX6_kept_76 rfl (lv_at hl 0 rfl) ?_
      refine lv_sipush (v := 256) hx hb dX6_kept_77 (by decide) ?_
      refine lv_isub hx hb dX6_kept_80 ?_
      refine lv_i2l hx hb dX6_kept_81 rfl ?_
      rw [show ((v &&& 255) - 256).toInt64 = rd 3 v from congrArg Int32.toInt64 (kp3b (Int32.not_lt.mpr c_2))]
      exact W.lret hx hb hr (fun t ht _ => ⟨rfl, ht⟩) (fun q z => nomatch z) dX6_kept_82
    · refine lv_iload_n hx hb dX6_kept_71 rfl (lv_at hl 0 rfl) ?_
      refine lv_i2l hx hb dX6_kept_72 rfl ?_
      refine lv_goto (tgt := 82) hx hb dX6_kept_73 (by decide) ?_
      rw [show (v &&& 255).toInt64 = rd 3 v from congrArg Int32.toInt64 (kp3a (Int32.not_le.mp c_2))]
      exact W.lret hx hb hr (fun t ht _ => ⟨rfl, ht⟩) (fun q z => nomatch z) dX6_kept_82
  · refine lv_tableIn (off := 82) (tgt := 83) hx hb dX6_kept_1 (by decide) (by decide) (by decide) (by decide) ?_
    refine lv_iload_n hx hb dX6_kept_83 rfl (lv_at hl 1 rfl) ?_
    refine lv_ldc hx hb hown (k_590 h hb0) dX6_kept_84 ?_
    refine lv_iand hx hb dX6_kept_86 ?_
    refine lv_i2l hx hb dX6_kept_87 rfl ?_
    rw [show (v &&& 65535).toInt64 = rd 4 v from congrArg Int32.toInt64 (kp4 v)]
    exact W.lret hx hb hr (fun t ht _ => ⟨rfl, ht⟩) (fun q z => nomatch z) dX6_kept_88
  · refine lv_tableIn (off := 88) (tgt := 89) hx hb dX6_kept_1 (by decide) (by decide) (by decide) (by decide) ?_
    refine lv_iload_n hx hb dX6_kept_89 rfl (lv_at hl 1 rfl) ?_
    refine lv_if_eq (tgt := 97) hx hb dX6_kept_90 (by decide) (fun c_3 => ?_) (fun c_3 => ?_)
    · refine lv_lconst (v := 0) hx hb dX6_kept_97 (by decide) ?_
      rw [show (0 : Int64) = rd 5 v by simp [rd, c_3]]
      exact W.lret hx hb hr (fun t ht _ => ⟨rfl, ht⟩) (fun q z => nomatch z) dX6_kept_98
    · refine lv_lconst (v := 1) hx hb dX6_kept_93 (by decide) ?_
      refine lv_goto (tgt := 98) hx hb dX6_kept_94 (by decide) ?_
      rw [show (1 : Int64) = rd 5 v by simp [rd, c_3]]
      exact W.lret hx hb hr (fun t ht _ => ⟨rfl, ht⟩) (fun q z => nomatch z) dX6_kept_98
  · refine lv_tableIn (off := 98) (tgt := 99) hx hb dX6_kept_1 (by decide) (by decide) (by decide) (by decide) ?_
    refine lv_iload_n hx hb dX6_kept_99 rfl (lv_at hl 1 rfl) ?_
    refine xr_1 (va_runS (As := [.int v]) (rest := []) ⟨hx, hb, hml, hown, xTs⟩ (c_nearest h v) ⟨xB (n := 1) (k_595 h hb0) (k_5 h hb0) (k_593 h hb0) (by decide) rfl rfl rfl (by decide) (by decide), (k_594 h hb0)⟩ (xpS hb0 hS hz (va_P.sub hP [] rfl)) rfl rfl hl.1 rfl (lv_room (Nat.le_of_ble_eq_true rfl)) dX6_kept_100 ⟨(Nat.le_of_ble_eq_true rfl), (Nat.le_of_ble_eq_true rfl)⟩) ?_
    exact W.lret hx hb hr (fun t ht _ => ⟨rfl, ht⟩) (fun q z => nomatch z) dX6_kept_103
  · refine lv_tableOut (tgt := 104) hx hb dX6_kept_1 (by decide) (by decide) ?_
    refine lv_iload_n hx hb dX6_kept_104 rfl (lv_at hl 1 rfl) ?_
    refine lv_i2l hx hb dX6_kept_105 rfl ?_
    rw [show v.toInt64 = rd 7 v from (xd_keep v).symm]
    exact W.lret hx hb hr (fun t ht _ => ⟨rfl, ht⟩) (fun q z => nomatch z) dX6_kept_106
set_option maxHeartbeats 4000000 in
set_option maxRecDepth 100000 in
theorem m_write_c {l : Launch} {s0 : State} {a0 : Array Value} {dC : Nat → ClassId} {dI : Nat → Nat → Nat} {cA : Nat → ClassId} (h : xC l s0 a0 dC dI cA) (mo mr ml ms mv : Nat) (th wr gm gh gw bm bd bc ca : Int32) (n : Nat → Int32) (f : Nat → Int64) (K J : Nat) (p1 p2 p3 p4 : Int32) (sz : Nat) (hKe : p1 &&& 7 = nI K) (hK8 : K < 8) (ht : ¬ p2 = 0) (h0 : ¬ p3 < 0) (h1 : p3 < n K) (hJ : 40 * nI K + p3 = nI J) (hJ3 : J < 320) : Met l yX6_write [Cond.code yX6_write cX6_write 6 (some .int)] ({ frames := 2, cells := 0, slots := 0, locals := 80 } : Room) (xPM s0 (dC, dI) [.ref mo, .int p1, .int p2, .int p3, .int p4] [(ml, .inl (cA 0, 8, .inl n))] [(mo, .inr (6, [.int th, .ref mr, .ref ml, .int wr, .int gm, .int gh, .int gw, .int bm, .int bd, .int bc, .int ca, .ref ms, .ref mv])), (mr, .inl (cA 1, 320, .inr (.inl f)))] sz) (xQM (dC, dI) (va_A [(mo, .inr (6, [.int th, .ref mr, .ref ml, .int wr, .int gm, .int gh, .int gw, .int bm, .int bd, .int bc, .int ca, .ref ms, .ref mv])), (mr, .inl (cA 1, 320, .inr (.inl f)))] sz) (fun r w1 => r = some (.int (wr + 1)) ∧ w1 = [(mo, .inr (6, [.int 0, .ref mr, .ref ml, .int (wr + 1), .int gm, .int gh, .int gw, .int bm, .int bd, .int bc, .int ca, .ref ms, .ref mv])), (mr, .inl (cA 1, 320, .inr (.inl (vp_updL f J (rd K p4)))))])) 0 0 (va_A [(mo, .inr (6, [.int th, .ref mr, .ref ml, .int wr, .int gm, .int gh, .int gw, .int bm, .int bd, .int bc, .int ca, .ref ms, .ref mv])), (mr, .inl (cA 1, 320, .inr (.inl f)))] sz) := by
  refine Met.ofW (cc := cX6_write) (maxL := 6) (ret := (some .int)) (by decide) rfl ?_
  intro p e s m args below meth c s₁ B hml hv
  obtain ⟨rfl, rfl, hb0, hPr, hP, hD0⟩ := hv
  have hx := B.exec
  have hb := B.bytes
  have hr := B.returns
  have hown : s.vm.findClass RX6 = some m.cls := findClass_of_methodNamed B.named
  have hlocks := B.notSynchronized
  have hK := h.K hb0
  have hS : va_S (va_A [(mo, .inr (6, [.int th, .ref mr, .ref ml, .int wr, .int gm, .int gh, .int gw, .int bm, .int bd, .int bc, .int ca, .ref ms, .ref mv])), (mr, .inl (cA 1, 320, .inr (.inl f)))] s.heap.size) s.heap s.heap [] := va_S.rf
  obtain ⟨A, hAe, hD, hA, hz, hRo, hwk, hnR⟩ := xM_start hb0 hPr hP hD0
  rw [hAe] at hS ⊢
  have hl := lv_entry ([.ref mo, .int p1, .int p2, .int p3, .int p4]) (n := 6) (Nat.le_of_ble_eq_true rfl)
  rw [lg_entry_eq]
  generalize (lg_sl ([.ref mo, .int p1, .int p2, .int p3, .int p4]) ++ List.replicate (6 - (lg_sl ([.ref mo, .int p1, .int p2, .int p3, .int p4])).length) Slot.unset).toArray = ls at hl ⊢
  have hl : lv_has ls 6 [(0, .ref mo), (1, .int p1), (2, .int p2), (3, .int p3), (4, .int p4)] := hl
  refine lv_aload_n hx hb dX6_write_0 rfl (lv_at hl 0 rfl) ?_
  refine lv_iconst (v := 0) hx hb dX6_write_1 (by decide) ?_
  refine va_put (D := (dC, dI)) (ci := 6) (v := .int 0) (ty := .int) (C := RX6) (T := TX6) (N := 13) hx hb (ly_6 h hb0) (fun _ z => z) tyX6 tyX6_ok nmX6 hown hK hP hD hS 0 rfl rfl 0 (by decide) (k_531 h hb0) (fun _ z => z) rfl (by decide +kernel) rfl rfl (Nat.le_of_ble_eq_true rfl) dX6_write_2 (fun H locs hP hD hS => ?_)
  have hP : va_P (dC, dI) vwCl [(mo, .inr (6, [.int 0, .ref mr, .ref ml, .int wr, .int gm, .int gh, .int gw, .int bm, .int bd, .int bc, .int ca, .ref ms, .ref mv])), (mr, .inl (cA 1, 320, .inr (.inl f)))] H := hP
  have hD : va_D A [(mo, .inr (6, [.int 0, .ref mr, .ref ml, .int wr, .int gm, .int gh, .int gw, .int bm, .int bd, .int bc, .int ca, .ref ms, .ref mv])), (mr, .inl (cA 1, 320, .inr (.inl f)))] := hD
  refine lv_iload_n hx hb dX6_write_5 rfl (lv_at hl 1 rfl) ?_
  refine lv_bipush (v := 7) hx hb dX6_write_6 (by decide) ?_
  refine lv_iand hx hb dX6_write_8 ?_
  rw [hKe]
  refine lv_istore (lv' := [(5, .int (nI K)), (0, .ref mo), (1, .int p1), (2, .int p2), (3, .int p3), (4, .int p4)]) hx hb dX6_write_9 hl (by decide) rfl (fun ls hl => ?_)
  refine lv_iload_n hx hb dX6_write_11 rfl (lv_at hl 3 rfl) ?_
  refine lv_if_ne (tgt := 21) hx hb dX6_write_12 (by decide) (fun c_1 => ?_) (fun c_1 => ?_)
  · refine lv_iload_n hx hb dX6_write_21 rfl (lv_at hl 4 rfl) ?_
    refine lv_if_lt (tgt := 36) hx hb dX6_write_22 (by decide) (fun c_2 => ?_) (fun c_2 => ?_)
    · exact absurd c_2 h0
    · refine lv_iload_n hx hb dX6_write_25 rfl (lv_at hl 4 rfl) ?_
      refine lv_aload_n hx hb dX6_write_26 rfl (lv_at hl 1 rfl) ?_
      refine va_get (D := (dC, dI)) (ci := 6) (v := .ref ml) (C := RX6) (T := TX6) (N := 13) hx hb (ly_6 h hb0) (fun _ z => z) hown hK hP 0 rfl rfl 2 (by decide) (k_533 h hb0) (fun _ z => z) rfl dX6_write_27 ?_
      refine lv_iload hx hb dX6_write_30 (lv_at hl 0 rfl) ?_
      refine va_iald hx hb hK (hRo _ _ hS) 0 0 rfl rfl (vp_in_nI hK8 (by decide)) dX6_write_32 ?_
      rw [nI_clamp (Nat.lt_trans hK8 (by decide))]
      refine lv_icmp_lt (tgt := 42) hx hb dX6_write_33 (by decide) (fun c_3 => ?_) (fun c_3 => ?_)
      · refine lv_aload_n hx hb dX6_write_42 rfl (lv_at hl 1 rfl) ?_
        refine va_get (D := (dC, dI)) (ci := 6) (v := .ref mr) (C := RX6) (T := TX6) (N := 13) hx hb (ly_6 h hb0) (fun _ z => z) hown hK hP 0 rfl rfl 1 (by decide) (k_532 h hb0) (fun _ z => z) rfl dX6_write_43 ?_
        refine lv_bipush (v := 40) hx hb dX6_write_46 (by decide) ?_
        refine lv_iload hx hb dX6_write_48 (lv_at hl 0 rfl) ?_
        refine lv_imul hx hb dX6_write_50 ?_
        refine lv_iload_n hx hb dX6_write_51 rfl (lv_at hl 4 rfl) ?_
        refine lv_iadd hx hb dX6_write_52 ?_
        rw [hJ]
        refine lv_iload hx hb dX6_write_53 (lv_at hl 0 rfl) ?_
        refine lv_iload hx hb dX6_write_55 (lv_at hl 5 rfl) ?_
        refine xr_1 (va_runS (As := [.int (nI K), .int p4]) (rest := [.int (nI J), .ref mr]) ⟨hx, hb, hml, hown, xTs⟩ (c_kept h K p4 hK8) ⟨xB (n := 2) (k_589 h hb0) (k_5 h hb0) (k_587 h hb0) (by decide) rfl rfl rfl (by decide) (by decide), (k_588 h hb0)⟩ (xpS hb0 hS hz (va_P.sub (hRo _ _ hS) [] rfl)) rfl rfl hl.1 rfl (lv_room (Nat.le_of_ble_eq_true rfl)) dX6_write_57 ⟨(Nat.le_of_ble_eq_true rfl), (Nat.le_of_ble_eq_true rfl)⟩) ?_
        refine va_last hx hb hK hP hD hS 1 1 rfl rfl (vp_in_nI hJ3 (by decide)) dX6_write_60 (fun H locs hP hD hS => ?_)
        have hP : va_P (dC, dI) vwCl [(mo, .inr (6, [.int 0, .ref mr, .ref ml, .int wr, .int gm, .int gh, .int gw, .int bm, .int bd, .int bc, .int ca, .ref ms, .ref mv])), (mr, .inl (cA 1, 320, .inr (.inl (vp_updL f (nI J).toNatClampNeg (rd K p4)))))] H := hP
        have hD : va_D A [(mo, .inr (6, [.int 0, .ref mr, .ref ml, .int wr, .int gm, .int gh, .int gw, .int bm, .int bd, .int bc, .int ca, .ref ms, .ref mv])), (mr, .inl (cA 1, 320, .inr (.inl (vp_updL f (nI J).toNatClampNeg (rd K p4)))))] := hD
        rw [nI_clamp (Nat.lt_trans hJ3 (by decide))] at hP hD
        refine lv_aload_n hx hb dX6_write_61 rfl (lv_at hl 1 rfl) ?_
        refine lv_dup hx hb dX6_write_62 rfl ?_
        refine va_get (D := (dC, dI)) (ci := 6) (v := .int wr) (C := RX6) (T := TX6) (N := 13) hx hb (ly_6 h hb0) (fun _ z => z) hown hK hP 0 rfl rfl 3 (by decide) (k_534 h hb0) (fun _ z => z) rfl dX6_write_63 ?_
        refine lv_iconst (v := 1) hx hb dX6_write_66 (by decide) ?_
        refine lv_iadd hx hb dX6_write_67 ?_
        refine va_put (D := (dC, dI)) (ci := 6) (v := .int (wr + 1)) (ty := .int) (C := RX6) (T := TX6) (N := 13) hx hb (ly_6 h hb0) (fun _ z => z) tyX6 tyX6_ok nmX6 hown hK hP hD hS 0 rfl rfl 3 (by decide) (k_534 h hb0) (fun _ z => z) rfl (by decide +kernel) rfl rfl (Nat.le_of_ble_eq_true rfl) dX6_write_68 (fun H locs hP hD hS => ?_)
        have hP : va_P (dC, dI) vwCl [(mo, .inr (6, [.int 0, .ref mr, .ref ml, .int (wr + 1), .int gm, .int gh, .int gw, .int bm, .int bd, .int bc, .int ca, .ref ms, .ref mv])), (mr, .inl (cA 1, 320, .inr (.inl (vp_updL f J (rd K p4)))))] H := hP
        have hD : va_D A [(mo, .inr (6, [.int 0, .ref mr, .ref ml, .int (wr + 1), .int gm, .int gh, .int gw, .int bm, .int bd, .int bc, .int ca, .ref ms, .ref mv])), (mr, .inl (cA 1, 320, .inr (.inl (vp_updL f J (rd K p4)))))] := hD
        refine lv_aload_n hx hb dX6_write_71 rfl (lv_at hl 1 rfl) ?_
        refine va_get (D := (dC, dI)) (ci := 6) (v := .int (wr + 1)) (C := RX6) (T := TX6) (N := 13) hx hb (ly_6 h hb0) (fun _ z => z) hown hK hP 0 rfl rfl 3 (by decide) (k_534 h hb0) (fun _ z => z) rfl dX6_write_72 ?_
        exact W.iret hx hb hr (fun t ht _ => ⟨(some (.int (wr + 1))), _, rfl, ⟨rfl, rfl⟩, by rw [ht]; exact hP, hD, hS.F ht⟩) (fun q z => hS.2.2 q z) dX6_write_75
      · exact absurd h1 c_3
  · exact absurd c_1 ht
set_option maxHeartbeats 4000000 in
set_option maxRecDepth 100000 in
theorem m_write_N {l : Launch} {s0 : State} {a0 : Array Value} {dC : Nat → ClassId} {dI : Nat → Nat → Nat} {cA : Nat → ClassId} (h : xC l s0 a0 dC dI cA) (mo mr ml ms mv : Nat) (th wr gm gh gw bm bd bc ca : Int32) (n : Nat → Int32) (K : Nat) (p1 p2 p3 p4 : Int32) (sz : Nat) (hKe : p1 &&& 7 = nI K) (hK8 : K < 8) (ht : p2 = 0) : Met l yX6_write [Cond.code yX6_write cX6_write 6 (some .int)] ({ frames := 1, cells := 0, slots := 0, locals := 40 } : Room) (xPM s0 (dC, dI) [.ref mo, .int p1, .int p2, .int p3, .int p4] [(ml, .inl (cA 0, 8, .inl n))] [(mo, .inr (6, [.int th, .ref mr, .ref ml, .int wr, .int gm, .int gh, .int gw, .int bm, .int bd, .int bc, .int ca, .ref ms, .ref mv]))] sz) (xQM (dC, dI) (va_A [(mo, .inr (6, [.int th, .ref mr, .ref ml, .int wr, .int gm, .int gh, .int gw, .int bm, .int bd, .int bc, .int ca, .ref ms, .ref mv]))] sz) (fun r w1 => r = some (.int 0) ∧ w1 = [(mo, .inr (6, [.int 1, .ref mr, .ref ml, .int wr, .int gm, .int gh, .int gw, .int bm, .int bd, .int bc, .int ca, .ref ms, .ref mv]))])) 0 0 (va_A [(mo, .inr (6, [.int th, .ref mr, .ref ml, .int wr, .int gm, .int gh, .int gw, .int bm, .int bd, .int bc, .int ca, .ref ms, .ref mv]))] sz) := by
  refine Met.ofW (cc := cX6_write) (maxL := 6) (ret := (some .int)) (by decide) rfl ?_
  intro p e s m args below meth c s₁ B hml hv
  obtain ⟨rfl, rfl, hb0, hPr, hP, hD0⟩ := hv
  have hx := B.exec
  have hb := B.bytes
  have hr := B.returns
  have hown : s.vm.findClass RX6 = some m.cls := findClass_of_methodNamed B.named
  have hlocks := B.notSynchronized
  have hK := h.K hb0
  have hS : va_S (va_A [(mo, .inr (6, [.int th, .ref mr, .ref ml, .int wr, .int gm, .int gh, .int gw, .int bm, .int bd, .int bc, .int ca, .ref ms, .ref mv]))] s.heap.size) s.heap s.heap [] := va_S.rf
  obtain ⟨A, hAe, hD, hA, hz, hRo, hwk, hnR⟩ := xM_start hb0 hPr hP hD0
  rw [hAe] at hS ⊢
  have hl := lv_entry ([.ref mo, .int p1, .int p2, .int p3, .int p4]) (n := 6) (Nat.le_of_ble_eq_true rfl)
  rw [lg_entry_eq]
  generalize (lg_sl ([.ref mo, .int p1, .int p2, .int p3, .int p4]) ++ List.replicate (6 - (lg_sl ([.ref mo, .int p1, .int p2, .int p3, .int p4])).length) Slot.unset).toArray = ls at hl ⊢
  have hl : lv_has ls 6 [(0, .ref mo), (1, .int p1), (2, .int p2), (3, .int p3), (4, .int p4)] := hl
  refine lv_aload_n hx hb dX6_write_0 rfl (lv_at hl 0 rfl) ?_
  refine lv_iconst (v := 0) hx hb dX6_write_1 (by decide) ?_
  refine va_put (D := (dC, dI)) (ci := 6) (v := .int 0) (ty := .int) (C := RX6) (T := TX6) (N := 13) hx hb (ly_6 h hb0) (fun _ z => z) tyX6 tyX6_ok nmX6 hown hK hP hD hS 0 rfl rfl 0 (by decide) (k_531 h hb0) (fun _ z => z) rfl (by decide +kernel) rfl rfl (Nat.le_of_ble_eq_true rfl) dX6_write_2 (fun H locs hP hD hS => ?_)
  have hP : va_P (dC, dI) vwCl [(mo, .inr (6, [.int 0, .ref mr, .ref ml, .int wr, .int gm, .int gh, .int gw, .int bm, .int bd, .int bc, .int ca, .ref ms, .ref mv]))] H := hP
  have hD : va_D A [(mo, .inr (6, [.int 0, .ref mr, .ref ml, .int wr, .int gm, .int gh, .int gw, .int bm, .int bd, .int bc, .int ca, .ref ms, .ref mv]))] := hD
  refine lv_iload_n hx hb dX6_write_5 rfl (lv_at hl 1 rfl) ?_
  refine lv_bipush (v := 7) hx hb dX6_write_6 (by decide) ?_
  refine lv_iand hx hb dX6_write_8 ?_
  rw [hKe]
  refine lv_istore (lv' := [(5, .int (nI K)), (0, .ref mo), (1, .int p1), (2, .int p2), (3, .int p3), (4, .int p4)]) hx hb dX6_write_9 hl (by decide) rfl (fun ls hl => ?_)
  refine lv_iload_n hx hb dX6_write_11 rfl (lv_at hl 3 rfl) ?_
  refine lv_if_ne (tgt := 21) hx hb dX6_write_12 (by decide) (fun c_1 => ?_) (fun c_1 => ?_)
  · exact absurd ht c_1
  · refine lv_aload_n hx hb dX6_write_15 rfl (lv_at hl 1 rfl) ?_
    refine lv_iconst (v := 1) hx hb dX6_write_16 (by decide) ?_
    refine xm_of (wc := [(mo, .inr (6, [.int 0, .ref mr, .ref ml, .int wr, .int gm, .int gh, .int gw, .int bm, .int bd, .int bc, .int ca, .ref ms, .ref mv]))]) (wo := []) (va_runV (As := [.int 1]) (rest := []) ⟨hx, hb, hml, hown, xTs⟩ (c_fails h mo mr ml ms mv 0 wr gm gh gw bm bd bc ca 1 _) ⟨xB (n := 1) (k_582 h hb0) (k_5 h hb0) (k_579 h hb0) (by decide) rfl rfl rfl (by decide) (by decide), (k_581 h hb0), (ks_3 h hb0)⟩ (xpMV (wr := []) (wc := [(mo, .inr (6, [.int 0, .ref mr, .ref ml, .int wr, .int gm, .int gh, .int gw, .int bm, .int bd, .int bc, .int ca, .ref ms, .ref mv]))]) hb0 hS hz (va_P.sub hP [] rfl) (va_P.sub hP [0] rfl) (va_D.sub (xDD (xDl hD0) hD hz hnR) [1] rfl rfl) (va_recv hK hP (ci := 6) (q0 := 0) rfl rfl)) rfl rfl hl.1 rfl (lv_room (Nat.le_of_ble_eq_true rfl)) dX6_write_17 ⟨(Nat.le_of_ble_eq_true rfl), (Nat.le_of_ble_eq_true rfl)⟩) hP hD hS hA [0] [] rfl rfl rfl (by decide) (fun r w1 H locs hΦ hP hD hS => ?_)
    obtain ⟨rfl, rfl⟩ := hΦ
    have hP : va_P (dC, dI) vwCl [(mo, .inr (6, [.int 1, .ref mr, .ref ml, .int wr, .int gm, .int gh, .int gw, .int bm, .int bd, .int bc, .int ca, .ref ms, .ref mv]))] H := hP
    have hD : va_D A [(mo, .inr (6, [.int 1, .ref mr, .ref ml, .int wr, .int gm, .int gh, .int gw, .int bm, .int bd, .int bc, .int ca, .ref ms, .ref mv]))] := hD
    exact W.iret hx hb hr (fun t ht _ => ⟨(some (.int 0)), _, rfl, ⟨rfl, rfl⟩, by rw [ht]; exact hP, hD, hS.F ht⟩) (fun q z => hS.2.2 q z) dX6_write_20
set_option maxHeartbeats 4000000 in
set_option maxRecDepth 100000 in
theorem m_write_A {l : Launch} {s0 : State} {a0 : Array Value} {dC : Nat → ClassId} {dI : Nat → Nat → Nat} {cA : Nat → ClassId} (h : xC l s0 a0 dC dI cA) (mo mr ml ms mv : Nat) (th wr gm gh gw bm bd bc ca : Int32) (n : Nat → Int32) (K : Nat) (p1 p2 p3 p4 : Int32) (sz : Nat) (hKe : p1 &&& 7 = nI K) (hK8 : K < 8) (ht : ¬ p2 = 0) (hc : p3 < 0 ∨ ¬ p3 < n K) : Met l yX6_write [Cond.code yX6_write cX6_write 6 (some .int)] ({ frames := 1, cells := 0, slots := 0, locals := 40 } : Room) (xPM s0 (dC, dI) [.ref mo, .int p1, .int p2, .int p3, .int p4] [(ml, .inl (cA 0, 8, .inl n))] [(mo, .inr (6, [.int th, .ref mr, .ref ml, .int wr, .int gm, .int gh, .int gw, .int bm, .int bd, .int bc, .int ca, .ref ms, .ref mv]))] sz) (xQM (dC, dI) (va_A [(mo, .inr (6, [.int th, .ref mr, .ref ml, .int wr, .int gm, .int gh, .int gw, .int bm, .int bd, .int bc, .int ca, .ref ms, .ref mv]))] sz) (fun r w1 => r = some (.int 0) ∧ w1 = [(mo, .inr (6, [.int 2, .ref mr, .ref ml, .int wr, .int gm, .int gh, .int gw, .int bm, .int bd, .int bc, .int ca, .ref ms, .ref mv]))])) 0 0 (va_A [(mo, .inr (6, [.int th, .ref mr, .ref ml, .int wr, .int gm, .int gh, .int gw, .int bm, .int bd, .int bc, .int ca, .ref ms, .ref mv]))] sz) := by
  refine Met.ofW (cc := cX6_write) (maxL := 6) (ret := (some .int)) (by decide) rfl ?_
  intro p e s m args below meth c s₁ B hml hv
  obtain ⟨rfl, rfl, hb0, hPr, hP, hD0⟩ := hv
  have hx := B.exec
  have hb := B.bytes
  have hr := B.returns
  have hown : s.vm.findClass RX6 = some m.cls := findClass_of_methodNamed B.named
  have hlocks := B.notSynchronized
  have hK := h.K hb0
  have hS : va_S (va_A [(mo, .inr (6, [.int th, .ref mr, .ref ml, .int wr, .int gm, .int gh, .int gw, .int bm, .int bd, .int bc, .int ca, .ref ms, .ref mv]))] s.heap.size) s.heap s.heap [] := va_S.rf
  obtain ⟨A, hAe, hD, hA, hz, hRo, hwk, hnR⟩ := xM_start hb0 hPr hP hD0
  rw [hAe] at hS ⊢
  have hl := lv_entry ([.ref mo, .int p1, .int p2, .int p3, .int p4]) (n := 6) (Nat.le_of_ble_eq_true rfl)
  rw [lg_entry_eq]
  generalize (lg_sl ([.ref mo, .int p1, .int p2, .int p3, .int p4]) ++ List.replicate (6 - (lg_sl ([.ref mo, .int p1, .int p2, .int p3, .int p4])).length) Slot.unset).toArray = ls at hl ⊢
  have hl : lv_has ls 6 [(0, .ref mo), (1, .int p1), (2, .int p2), (3, .int p3), (4, .int p4)] := hl
  refine lv_aload_n hx hb dX6_write_0 rfl (lv_at hl 0 rfl) ?_
  refine lv_iconst (v := 0) hx hb dX6_write_1 (by decide) ?_
  refine va_put (D := (dC, dI)) (ci := 6) (v := .int 0) (ty := .int) (C := RX6) (T := TX6) (N := 13) hx hb (ly_6 h hb0) (fun _ z => z) tyX6 tyX6_ok nmX6 hown hK hP hD hS 0 rfl rfl 0 (by decide) (k_531 h hb0) (fun _ z => z) rfl (by decide +kernel) rfl rfl (Nat.le_of_ble_eq_true rfl) dX6_write_2 (fun H locs hP hD hS => ?_)
  have hP : va_P (dC, dI) vwCl [(mo, .inr (6, [.int 0, .ref mr, .ref ml, .int wr, .int gm, .int gh, .int gw, .int bm, .int bd, .int bc, .int ca, .ref ms, .ref mv]))] H := hP
  have hD : va_D A [(mo, .inr (6, [.int 0, .ref mr, .ref ml, .int wr, .int gm, .int gh, .int gw, .int bm, .int bd, .int bc, .int ca, .ref ms, .ref mv]))] := hD
  refine lv_iload_n hx hb dX6_write_5 rfl (lv_at hl 1 rfl) ?_
  refine lv_bipush (v := 7) hx hb dX6_write_6 (by decide) ?_
  refine lv_iand hx hb dX6_write_8 ?_
  rw [hKe]
  refine lv_istore (lv' := [(5, .int (nI K)), (0, .ref mo), (1, .int p1), (2, .int p2), (3, .int p3), (4, .int p4)]) hx hb dX6_write_9 hl (by decide) rfl (fun ls hl => ?_)
  refine lv_iload_n hx hb dX6_write_11 rfl (lv_at hl 3 rfl) ?_
  refine lv_if_ne (tgt := 21) hx hb dX6_write_12 (by decide) (fun c_1 => ?_) (fun c_1 => ?_)
  · refine lv_iload_n hx hb dX6_write_21 rfl (lv_at hl 4 rfl) ?_
    refine lv_if_lt (tgt := 36) hx hb dX6_write_22 (by decide) (fun c_2 => ?_) (fun c_2 => ?_)
    · refine lv_aload_n hx hb dX6_write_36 rfl (lv_at hl 1 rfl) ?_
      refine lv_iconst (v := 2) hx hb dX6_write_37 (by decide) ?_
      refine xm_of (wc := [(mo, .inr (6, [.int 0, .ref mr, .ref ml, .int wr, .int gm, .int gh, .int gw, .int bm, .int bd, .int bc, .int ca, .ref ms, .ref mv]))]) (wo := []) (va_runV (As := [.int 2]) (rest := []) ⟨hx, hb, hml, hown, xTs⟩ (c_fails h mo mr ml ms mv 0 wr gm gh gw bm bd bc ca 2 _) ⟨xB (n := 1) (k_582 h hb0) (k_5 h hb0) (k_579 h hb0) (by decide) rfl rfl rfl (by decide) (by decide), (k_581 h hb0), (ks_3 h hb0)⟩ (xpMV (wr := []) (wc := [(mo, .inr (6, [.int 0, .ref mr, .ref ml, .int wr, .int gm, .int gh, .int gw, .int bm, .int bd, .int bc, .int ca, .ref ms, .ref mv]))]) hb0 hS hz (va_P.sub hP [] rfl) (va_P.sub hP [0] rfl) (va_D.sub (xDD (xDl hD0) hD hz hnR) [1] rfl rfl) (va_recv hK hP (ci := 6) (q0 := 0) rfl rfl)) rfl rfl hl.1 rfl (lv_room (Nat.le_of_ble_eq_true rfl)) dX6_write_38 ⟨(Nat.le_of_ble_eq_true rfl), (Nat.le_of_ble_eq_true rfl)⟩) hP hD hS hA [0] [] rfl rfl rfl (by decide) (fun r w1 H locs hΦ hP hD hS => ?_)
      obtain ⟨rfl, rfl⟩ := hΦ
      have hP : va_P (dC, dI) vwCl [(mo, .inr (6, [.int 2, .ref mr, .ref ml, .int wr, .int gm, .int gh, .int gw, .int bm, .int bd, .int bc, .int ca, .ref ms, .ref mv]))] H := hP
      have hD : va_D A [(mo, .inr (6, [.int 2, .ref mr, .ref ml, .int wr, .int gm, .int gh, .int gw, .int bm, .int bd, .int bc, .int ca, .ref ms, .ref mv]))] := hD
      exact W.iret hx hb hr (fun t ht _ => ⟨(some (.int 0)), _, rfl, ⟨rfl, rfl⟩, by rw [ht]; exact hP, hD, hS.F ht⟩) (fun q z => hS.2.2 q z) dX6_write_41
    · refine lv_iload_n hx hb dX6_write_25 rfl (lv_at hl 4 rfl) ?_
      refine lv_aload_n hx hb dX6_write_26 rfl (lv_at hl 1 rfl) ?_
      refine va_get (D := (dC, dI)) (ci := 6) (v := .ref ml) (C := RX6) (T := TX6) (N := 13) hx hb (ly_6 h hb0) (fun _ z => z) hown hK hP 0 rfl rfl 2 (by decide) (k_533 h hb0) (fun _ z => z) rfl dX6_write_27 ?_
      refine lv_iload hx hb dX6_write_30 (lv_at hl 0 rfl) ?_
      refine va_iald hx hb hK (hRo _ _ hS) 0 0 rfl rfl (vp_in_nI hK8 (by decide)) dX6_write_32 ?_
      rw [nI_clamp (Nat.lt_trans hK8 (by decide))]
      refine lv_icmp_lt (tgt := 42) hx hb dX6_write_33 (by decide) (fun c_3 => ?_) (fun c_3 => ?_)
      · exact absurd hc (fun z => z.elim c_2 (fun y => y c_3))
      · refine lv_aload_n hx hb dX6_write_36 rfl (lv_at hl 1 rfl) ?_
        refine lv_iconst (v := 2) hx hb dX6_write_37 (by decide) ?_
        refine xm_of (wc := [(mo, .inr (6, [.int 0, .ref mr, .ref ml, .int wr, .int gm, .int gh, .int gw, .int bm, .int bd, .int bc, .int ca, .ref ms, .ref mv]))]) (wo := []) (va_runV (As := [.int 2]) (rest := []) ⟨hx, hb, hml, hown, xTs⟩ (c_fails h mo mr ml ms mv 0 wr gm gh gw bm bd bc ca 2 _) ⟨xB (n := 1) (k_582 h hb0) (k_5 h hb0) (k_579 h hb0) (by decide) rfl rfl rfl (by decide) (by decide), (k_581 h hb0), (ks_3 h hb0)⟩ (xpMV (wr := []) (wc := [(mo, .inr (6, [.int 0, .ref mr, .ref ml, .int wr, .int gm, .int gh, .int gw, .int bm, .int bd, .int bc, .int ca, .ref ms, .ref mv]))]) hb0 hS hz (va_P.sub hP [] rfl) (va_P.sub hP [0] rfl) (va_D.sub (xDD (xDl hD0) hD hz hnR) [1] rfl rfl) (va_recv hK hP (ci := 6) (q0 := 0) rfl rfl)) rfl rfl hl.1 rfl (lv_room (Nat.le_of_ble_eq_true rfl)) dX6_write_38 ⟨(Nat.le_of_ble_eq_true rfl), (Nat.le_of_ble_eq_true rfl)⟩) hP hD hS hA [0] [] rfl rfl rfl (by decide) (fun r w1 H locs hΦ hP hD hS => ?_)
        obtain ⟨rfl, rfl⟩ := hΦ
        have hP : va_P (dC, dI) vwCl [(mo, .inr (6, [.int 2, .ref mr, .ref ml, .int wr, .int gm, .int gh, .int gw, .int bm, .int bd, .int bc, .int ca, .ref ms, .ref mv]))] H := hP
        have hD : va_D A [(mo, .inr (6, [.int 2, .ref mr, .ref ml, .int wr, .int gm, .int gh, .int gw, .int bm, .int bd, .int bc, .int ca, .ref ms, .ref mv]))] := hD
        exact W.iret hx hb hr (fun t ht _ => ⟨(some (.int 0)), _, rfl, ⟨rfl, rfl⟩, by rw [ht]; exact hP, hD, hS.F ht⟩) (fun q z => hS.2.2 q z) dX6_write_41
  · exact absurd c_1 ht
