/-! What a float, a double, a short, a byte, a char keep of an int. -/
theorem xd_keep (v : Int32) : FP.d2l (FP.i2d v) = v.toInt64 := by
  show Jvm.FP.Core.d2l (Jvm.FP.Core.i2d v) = v.toInt64
  rw [Jvm.FP.Core.i2d_l2d]
  refine Jvm.FP.Core.d2l_l2d_small ?_
  have h1 := v.toInt_lt
  have h2 := v.le_toInt
  unfold Jvm.FP.Core.Small53
  rw [Int32.toInt_toInt64]
  omega
theorem xf_small {v : Int32} (h1 : -16777216 < v.toInt) (h2 : v.toInt < 16777216) : FP.f2l (FP.i2f v) = v.toInt64 := by
  show Jvm.FP.Core.f2l (Jvm.FP.Core.i2f v) = v.toInt64
  rw [Jvm.FP.Core.i2f_l2f]
  refine Jvm.FP.Core.f2l_l2f_small ?_
  unfold Jvm.FP.Core.Small24
  rw [Int32.toInt_toInt64]
  omega
theorem xf_big {v : Int32} {A k : Nat} (hA : v.toInt.natAbs = A) (h1 : 8388608 * 2 ^ k ≤ A) (h2 : A < 16777216 * 2 ^ k) (hk : k ≤ 8) {r : Int64} (hr : r.toInt = Jvm.FP.Core.signed (decide (v.toInt < 0)) (Jvm.FP.Core.nearest A (2 ^ k) * 2 ^ k)) : FP.f2l (FP.i2f v) = r := by
  refine Jvm.FP.Core.f2l_int (b := FP.i2f v) ?_
  show Jvm.FP.Core.Whole r.toInt (Jvm.FP.Core.val32 (Jvm.FP.Core.i2f v))
  have hpos : 0 < 2 ^ k := Nat.two_pow_pos k
  have hA0 : 0 < A := by omega
  rw [Jvm.FP.Core.val32_i2f]
  show Jvm.FP.Core.Whole r.toInt (Jvm.FP.Core.roundRatio Jvm.FP.Core.b32 (decide (v.toInt < 0)) v.toInt.natAbs 1 0)
  rw [hA]
  have hq : Jvm.FP.Core.quantum Jvm.FP.Core.b32 A 1 0 = (k : Int) := by
    refine Jvm.FP.Core.quantum_eq hA0 (by decide) (by have : Jvm.FP.Core.b32.qmin = -149 := by decide
                                                      omega) ?_ (Or.inr ?_)
    · have := (Jvm.FP.Core.below_iff A 1 (k + 24) 0).mpr (by rw [Nat.pow_add]; omega)
      have e : ((k : Int) - 0 + (Jvm.FP.Core.b32.p : Int)) = ((k + 24 : Nat) : Int) - (0 : Nat) := by show (k : Int) - 0 + 24 = _; omega
      rw [e]; exact this
    · intro hb
      have e : ((k : Int) - 0 + ((Jvm.FP.Core.b32.p : Int) - 1)) = ((k + 23 : Nat) : Int) - (0 : Nat) := by show (k : Int) - 0 + (24 - 1) = _; omega
      rw [e] at hb
      have := (Jvm.FP.Core.below_iff A 1 (k + 23) 0).mp hb
      rw [Nat.pow_add] at this
      omega
  unfold Jvm.FP.Core.roundRatio
  rw [if_neg (by omega), hq]
  unfold Jvm.FP.Core.roundAt
  have eN : Jvm.FP.Core.unitsNum A 0 (k : Int) = A := by
    unfold Jvm.FP.Core.unitsNum
    rw [show (0 - (k : Int)).toNat = 0 by omega, Nat.pow_zero, Nat.mul_one]
  have eD : Jvm.FP.Core.unitsDen 1 0 (k : Int) = 2 ^ k := by
    unfold Jvm.FP.Core.unitsDen
    rw [show ((k : Int) - 0).toNat = k by omega, Nat.one_mul]
  rw [eN, eD]
  have hle : Jvm.FP.Core.nearest A (2 ^ k) ≤ 16777216 := Jvm.FP.Core.nearest_le hpos (by omega)
  generalize Jvm.FP.Core.nearest A (2 ^ k) = c at hr hle
  unfold Jvm.FP.Core.settle
  by_cases hc : c < 2 ^ Jvm.FP.Core.b32.p
  · rw [if_pos hc]
    unfold Jvm.FP.Core.bound
    rw [if_pos (by have : Jvm.FP.Core.b32.qmax = 104 := by decide
                   omega)]
    show Jvm.FP.Core.signed _ (c * 2 ^ (k : Int).toNat) = r.toInt * ((2 ^ (-(k : Int)).toNat : Nat) : Int)
    rw [show (-(k : Int)).toNat = 0 by omega, hr, show ((k : Int)).toNat = k by omega]
    simp
  · rw [if_neg hc]
    have hc : ¬ c < 16777216 := hc
    have ec : c = 16777216 := by omega
    unfold Jvm.FP.Core.bound
    rw [if_pos (by have : Jvm.FP.Core.b32.qmax = 104 := by decide
                   omega)]
    show Jvm.FP.Core.signed _ (Jvm.FP.Core.b32.tails * 2 ^ ((k : Int) + 1).toNat) = r.toInt * ((2 ^ (-((k : Int) + 1)).toNat : Nat) : Int)
    rw [show (-((k : Int) + 1)).toNat = 0 by omega, hr, show ((k : Int) + 1).toNat = k + 1 by omega, ec, show Jvm.FP.Core.b32.tails = 8388608 from by decide, Nat.pow_succ, show 8388608 * (2 ^ k * 2) = 16777216 * 2 ^ k by omega]
    simp
