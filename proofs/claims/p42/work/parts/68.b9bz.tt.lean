def lb (A : Int64) (i : Nat) : Bool := A.toBitVec.getLsbD i
theorem lb_or {A : Int64} {y : Int32} {i j : Nat} (hy : y.toInt = (i : Int)) (hi : i < 48) (hj : j < 48) : lb (A ||| ((1 : Int64) <<< (y.toInt64 &&& 63))) j = (lb A j || decide (j = i)) := by
  have e : y = Int32.ofNat i := Int32.toInt_inj.mp (by rw [hy, Int32.toInt_ofNat_of_lt (by omega)])
  have tab : ∀ i, i < 48 → ∀ j, j < 48 → ((1 : Int64) <<< ((Int32.ofNat i).toInt64 &&& 63)).toBitVec.getLsbD j = decide (j = i) := by decide +kernel
  unfold lb
  rw [Int64.toBitVec_or, BitVec.getLsbD_or, e, tab i hi j hj]
theorem lb_and {A : Int64} {y : Int32} {i : Nat} (hy : y.toInt = (i : Int)) (hi : i < 48) : (A &&& ((1 : Int64) <<< (y.toInt64 &&& 63))) = 0 ↔ lb A i = false := by
  have e : y = Int32.ofNat i := Int32.toInt_inj.mp (by rw [hy, Int32.toInt_ofNat_of_lt (by omega)])
  have tab : ∀ i, i < 48 → ∀ j, j < 64 → ((1 : Int64) <<< ((Int32.ofNat i).toInt64 &&& 63)).toBitVec.getLsbD j = decide (j = i) := by decide +kernel
  unfold lb
  constructor
  · intro h
    have h1 : (A &&& ((1 : Int64) <<< (y.toInt64 &&& 63))).toBitVec.getLsbD i = (0 : Int64).toBitVec.getLsbD i := by rw [h]
    rw [Int64.toBitVec_and, BitVec.getLsbD_and, e, tab i hi i (by omega), decide_eq_true rfl, Bool.and_true] at h1
    rw [h1]
    exact BitVec.getLsbD_zero
  · intro h
    apply Int64.toBitVec_inj.mp
    apply BitVec.eq_of_getLsbD_eq
    intro j hj
    rw [Int64.toBitVec_and, BitVec.getLsbD_and, e, tab i hi j hj]
    show _ = (0#64).getLsbD j
    rw [BitVec.getLsbD_zero]
    by_cases c : j = i
    · rw [c, h, Bool.false_and]
    · rw [decide_eq_false c, Bool.and_false]
