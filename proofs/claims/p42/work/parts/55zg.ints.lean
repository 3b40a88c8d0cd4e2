/-! ===== the whole numbers of the machine, as numbers ===== -/
theorem n_add {x y : Int32} (h1 : -2147483648 ≤ x.toInt + y.toInt) (h2 : x.toInt + y.toInt ≤ 2147483647) : (x + y).toInt = x.toInt + y.toInt := by
  rw [Int32.toInt_add]
  exact Int.bmod_eq_of_le (by omega) (by omega)
theorem n_sub {x y : Int32} (h1 : -2147483648 ≤ x.toInt - y.toInt) (h2 : x.toInt - y.toInt ≤ 2147483647) : (x - y).toInt = x.toInt - y.toInt := by
  rw [Int32.toInt_sub]
  exact Int.bmod_eq_of_le (by omega) (by omega)
theorem n_mul {x y : Int32} (h1 : -2147483648 ≤ x.toInt * y.toInt) (h2 : x.toInt * y.toInt ≤ 2147483647) : (x * y).toInt = x.toInt * y.toInt := by
  rw [Int32.toInt_mul]
  exact Int.bmod_eq_of_le (by omega) (by omega)
theorem n_range (x : Int32) : -2147483648 ≤ x.toInt ∧ x.toInt ≤ 2147483647 := by
  have h1 := Int32.le_toInt x
  have h2 := Int32.toInt_lt x
  omega
theorem n_and {x y : Int32} (h : 0 ≤ y.toInt) : 0 ≤ (x &&& y).toInt ∧ (x &&& y).toInt ≤ y.toInt := by
  have e : ∀ z : Int32, z.toInt = if 2 * z.toBitVec.toNat < 2 ^ 32 then (z.toBitVec.toNat : Int) else (z.toBitVec.toNat : Int) - (2 ^ 32 : Nat) := fun z => BitVec.toInt_eq_toNat_cond _
  have hy := e y
  have hz := e (x &&& y)
  have hle : (x &&& y).toBitVec.toNat ≤ y.toBitVec.toNat := by
    show (x.toBitVec &&& y.toBitVec).toNat ≤ _
    rw [BitVec.toNat_and]
    exact Nat.and_le_right
  have hlt := y.toBitVec.isLt
  by_cases c : 2 * y.toBitVec.toNat < 2 ^ 32
  · rw [if_pos c] at hy
    rw [if_pos (by omega)] at hz
    omega
  · rw [if_neg c] at hy
    omega
theorem n_rem {x y : Int32} (h : 1 ≤ y.toInt) : (x - x / y * y).toInt = x.toInt.tmod y.toInt := by
  have hx := n_range x
  have hy := n_range y
  have hd : (x / y).toInt = x.toInt.tdiv y.toInt := by
    rw [Int32.toInt_div]
    have h1 : (x.toInt.tdiv y.toInt).natAbs ≤ x.toInt.natAbs := by
      rw [Int.natAbs_tdiv]
      exact Nat.div_le_self _ _
    by_cases hq : x.toInt = -2147483648
    · by_cases hy1 : y.toInt = 1
      · rw [hy1, Int.tdiv_one]
        exact Int.bmod_eq_of_le (by omega) (by omega)
      · have h2 : (x.toInt.tdiv y.toInt).natAbs ≤ x.toInt.natAbs / 2 := by
          rw [Int.natAbs_tdiv]
          exact Nat.div_le_div_left (by omega) (by decide)
        exact Int.bmod_eq_of_le (by omega) (by omega)
    · exact Int.bmod_eq_of_le (by omega) (by omega)
  have hm : x.toInt.tdiv y.toInt * y.toInt = x.toInt - x.toInt.tmod y.toInt := by
    have := Int.mul_tdiv_add_tmod x.toInt y.toInt
    have e2 := Int.mul_comm y.toInt (x.toInt.tdiv y.toInt)
    omega
  have ht : (x.toInt.tmod y.toInt).natAbs ≤ x.toInt.natAbs := by
    rw [Int.natAbs_tmod]
    exact Nat.mod_le _ _
  have hs : 0 ≤ x.toInt → 0 ≤ x.toInt.tmod y.toInt := fun h => Int.tmod_nonneg _ h
  have hs' : x.toInt ≤ 0 → x.toInt.tmod y.toInt ≤ 0 := fun h => by
    have := Int.tmod_nonneg y.toInt (a := -x.toInt) (by omega)
    rw [Int.neg_tmod] at this
    omega
  have hq : (x / y * y).toInt = x.toInt - x.toInt.tmod y.toInt := by
    have e3 : (x / y).toInt * y.toInt = x.toInt - x.toInt.tmod y.toInt := by rw [hd, hm]
    rw [n_mul (by rw [e3]; omega) (by rw [e3]; omega), e3]
  rw [n_sub (by rw [hq]; omega) (by rw [hq]; omega), hq]
  omega
theorem n_ushr {x y : Int32} (h : y = 8) : 0 ≤ ((x.toUInt32 >>> (y.toUInt32 &&& Int32.toUInt32 31)).toInt32).toInt ∧ ((x.toUInt32 >>> (y.toUInt32 &&& Int32.toUInt32 31)).toInt32).toInt ≤ 16777215 := by
  subst h
  have e : (x.toUInt32 >>> ((8 : Int32).toUInt32 &&& Int32.toUInt32 31)).toNat = x.toUInt32.toNat >>> 8 := by
    rw [UInt32.toNat_shiftRight]
    rfl
  have h2 : x.toUInt32.toNat < 2 ^ 32 := x.toUInt32.toNat_lt
  have h3 : x.toUInt32.toNat >>> 8 < 2 ^ 24 := by
    rw [Nat.shiftRight_eq_div_pow]
    omega
  have e2 : ((x.toUInt32 >>> ((8 : Int32).toUInt32 &&& Int32.toUInt32 31)).toInt32).toInt = ((x.toUInt32.toNat >>> 8 : Nat) : Int) := by
    show (BitVec.toInt _) = _
    rw [BitVec.toInt_eq_toNat_cond]
    have e3 : ((x.toUInt32 >>> ((8 : Int32).toUInt32 &&& Int32.toUInt32 31)).toInt32).toBitVec.toNat = x.toUInt32.toNat >>> 8 := e
    rw [e3, if_pos (by omega)]
  rw [e2]
  omega
theorem n_neg {x : Int32} (h : x.toInt ≠ -2147483648) : (-x).toInt = - x.toInt := by
  have hx := n_range x
  rw [Int32.toInt_neg]
  exact Int.bmod_eq_of_le (by omega) (by omega)
theorem n_max {x y : Int32} : (ab_max x y).toInt = max x.toInt y.toInt := by
  unfold ab_max
  by_cases h : x < y
  · rw [if_pos h]
    have := Int32.lt_iff_toInt_lt.mp h
    omega
  · rw [if_neg h]
    have : ¬ x.toInt < y.toInt := fun e => h (Int32.lt_iff_toInt_lt.mpr e)
    omega
theorem n_min {x y : Int32} : (ab_min x y).toInt = min x.toInt y.toInt := by
  unfold ab_min
  by_cases h : y < x
  · rw [if_pos h]
    have := Int32.lt_iff_toInt_lt.mp h
    omega
  · rw [if_neg h]
    have : ¬ y.toInt < x.toInt := fun e => h (Int32.lt_iff_toInt_lt.mpr e)
    omega
theorem n_in {x : Int32} {n : Nat} (h1 : 0 ≤ x.toInt) (h2 : x.toInt < n) : ab_in x n = true := by
  have e : ¬ x < 0 := fun h => by
    have := Int32.lt_iff_toInt_lt.mp h
    have e0 : (0 : Int32).toInt = 0 := rfl
    omega
  have e2 : x.toNatClampNeg < n := by
    show x.toInt.toNat < n
    omega
  rw [ab_in, decide_eq_false e, decide_eq_true e2]
  rfl
theorem n_idx {x : Int32} (h1 : 0 ≤ x.toInt) : (x.toNatClampNeg : Int) = x.toInt := by
  show ((x.toInt.toNat : Nat) : Int) = x.toInt
  omega
