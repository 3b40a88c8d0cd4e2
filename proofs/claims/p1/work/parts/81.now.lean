/-! ===== now ===== -/
set_option maxRecDepth 10000 in
set_option maxHeartbeats 2000000 in
theorem c_now_0 : ∃ m g, Z_X10_now [.ref 0, .int 0] H0 = some (some (.int 0), MG m g) := by
  refine cX (Nat.le_of_ble_eq_true rfl) ?_
  repeat refine Ev.step rfl rfl ?_
  exact Ev.ret rfl rfl rfl
set_option maxRecDepth 10000 in
set_option maxHeartbeats 2000000 in
theorem m_now_0 (m : Nat) (g : Nat → ab_E) : ∃ hp, Z_X11_now [.ref 69, .int 0] (MG m g) = some (some (.int 0), hp) := by
  refine mX (Nat.le_of_ble_eq_true rfl) ?_
  repeat refine Ev.step rfl rfl ?_
  exact Ev.ret rfl rfl rfl
set_option maxRecDepth 10000 in
set_option maxHeartbeats 2000000 in
theorem c_now_1 : ∃ m g, Z_X10_now [.ref 0, .int 1] H0 = some (some (.int 0), MG m g) := by
  refine cX (Nat.le_of_ble_eq_true rfl) ?_
  repeat refine Ev.step rfl rfl ?_
  exact Ev.ret rfl rfl rfl
set_option maxRecDepth 10000 in
set_option maxHeartbeats 2000000 in
theorem m_now_1 (m : Nat) (g : Nat → ab_E) : ∃ hp, Z_X11_now [.ref 69, .int 1] (MG m g) = some (some (.int 0), hp) := by
  refine mX (Nat.le_of_ble_eq_true rfl) ?_
  repeat refine Ev.step rfl rfl ?_
  exact Ev.ret rfl rfl rfl
set_option maxRecDepth 10000 in
set_option maxHeartbeats 2000000 in
theorem c_now_2 : ∃ m g, Z_X10_now [.ref 0, .int 2] H0 = some (some (.int 0), MG m g) := by
  refine cX (Nat.le_of_ble_eq_true rfl) ?_
  repeat refine Ev.step rfl rfl ?_
  exact Ev.ret rfl rfl rfl
set_option maxRecDepth 10000 in
set_option maxHeartbeats 2000000 in
theorem m_now_2 (m : Nat) (g : Nat → ab_E) : ∃ hp, Z_X11_now [.ref 69, .int 2] (MG m g) = some (some (.int 0), hp) := by
  refine mX (Nat.le_of_ble_eq_true rfl) ?_
  repeat refine Ev.step rfl rfl ?_
  exact Ev.ret rfl rfl rfl
set_option maxRecDepth 10000 in
set_option maxHeartbeats 2000000 in
theorem c_now_3 : ∃ m g, Z_X10_now [.ref 0, .int 3] H0 = some (some (.int 0), MG m g) := by
  refine cX (Nat.le_of_ble_eq_true rfl) ?_
  repeat refine Ev.step rfl rfl ?_
  exact Ev.ret rfl rfl rfl
set_option maxRecDepth 10000 in
set_option maxHeartbeats 2000000 in
theorem m_now_3 (m : Nat) (g : Nat → ab_E) : ∃ hp, Z_X11_now [.ref 69, .int 3] (MG m g) = some (some (.int 0), hp) := by
  refine mX (Nat.le_of_ble_eq_true rfl) ?_
  repeat refine Ev.step rfl rfl ?_
  exact Ev.ret rfl rfl rfl
set_option maxRecDepth 10000 in
set_option maxHeartbeats 2000000 in
theorem c_now_4 : ∃ m g, Z_X10_now [.ref 0, .int 4] H0 = some (some (.int 0), MG m g) := by
  refine cX (Nat.le_of_ble_eq_true rfl) ?_
  repeat refine Ev.step rfl rfl ?_
  exact Ev.ret rfl rfl rfl
set_option maxRecDepth 10000 in
set_option maxHeartbeats 2000000 in
theorem m_now_4 (m : Nat) (g : Nat → ab_E) : ∃ hp, Z_X11_now [.ref 69, .int 4] (MG m g) = some (some (.int 0), hp) := by
  refine mX (Nat.le_of_ble_eq_true rfl) ?_
  repeat refine Ev.step rfl rfl ?_
  exact Ev.ret rfl rfl rfl
set_option maxRecDepth 10000 in
set_option maxHeartbeats 2000000 in
theorem c_now_5 : ∃ m g, Z_X10_now [.ref 0, .int 5] H0 = some (some (.int 0), MG m g) := by
  refine cX (Nat.le_of_ble_eq_true rfl) ?_
  repeat refine Ev.step rfl rfl ?_
  exact Ev.ret rfl rfl rfl
set_option maxRecDepth 10000 in
set_option maxHeartbeats 2000000 in
theorem m_now_5 (m : Nat) (g : Nat → ab_E) : ∃ hp, Z_X11_now [.ref 69, .int 5] (MG m g) = some (some (.int 0), hp) := by
  refine mX (Nat.le_of_ble_eq_true rfl) ?_
  repeat refine Ev.step rfl rfl ?_
  exact Ev.ret rfl rfl rfl
set_option maxRecDepth 10000 in
set_option maxHeartbeats 2000000 in
theorem c_now_6 : ∃ m g, Z_X10_now [.ref 0, .int 6] H0 = some (some (.int 0), MG m g) := by
  refine cX (Nat.le_of_ble_eq_true rfl) ?_
  refine Ev.step rfl rfl ?_
  refine Ev.step rfl rfl ?_
  refine Ev.step rfl rfl ?_
  refine Ev.step rfl rfl ?_
  refine (show Ev _ 106 ([some (.ref 0), some (.int 6)], [.ref 12], (0, 0), H0) _ from ?_)
  refine Ev.callV (o := (some (.int 0), H0)) rfl rfl rfl (ab_X_eq (Nat.le_of_ble_eq_true rfl) ?_) ?_
  · repeat refine Ev.step rfl rfl ?_
    exact Ev.ret rfl rfl rfl
  · exact Ev.ret rfl rfl rfl
set_option maxRecDepth 10000 in
set_option maxHeartbeats 2000000 in
theorem m_now_6 (m : Nat) (g : Nat → ab_E) : ∃ hp, Z_X11_now [.ref 69, .int 6] (MG m g) = some (some (.int 0), hp) := by
  refine mX (Nat.le_of_ble_eq_true rfl) ?_
  repeat refine Ev.step rfl rfl ?_
  exact Ev.ret rfl rfl rfl
set_option maxRecDepth 10000 in
set_option maxHeartbeats 2000000 in
theorem c_now_n {x : Int32} (h : ¬ (0 ≤ x ∧ x < 7)) : ∃ m g, Z_X10_now [.ref 0, .int x] H0 = some (some (.int (-1)), MG m g) := by
  have e : cond (decide (x.toInt < 0)) 110 ((([44, 52, 60, 73, 86, 94, 102] : List Nat)[(x.toInt - 0).toNat]?).getD 110) = 110 := by
    by_cases h0 : x.toInt < 0
    · rw [decide_eq_true h0]
      rfl
    · have h5 : ¬ x.toInt < 7 := fun h5 => h ⟨Int32.le_iff_toInt_le.mpr (Int.not_lt.mp h0), Int32.lt_iff_toInt_lt.mpr h5⟩
      rw [decide_eq_false h0, List.getElem?_eq_none (by show 7 ≤ _; omega)]
      rfl
  refine cX (Nat.le_of_ble_eq_true rfl) ?_
  refine Ev.step rfl rfl ?_
  refine Ev.step rfl rfl ?_
  refine Ev.idx e ?_
  refine Ev.step rfl rfl ?_
  exact Ev.ret rfl rfl rfl
set_option maxRecDepth 10000 in
set_option maxHeartbeats 2000000 in
theorem m_now_n {x : Int32} (h : ¬ (0 ≤ x ∧ x < 7)) (m : Nat) (g : Nat → ab_E) : ∃ hp, Z_X11_now [.ref 69, .int x] (MG m g) = some (some (.int (-1)), hp) := by
  have e : cond (decide (x.toInt < 0)) 102 ((([48, 56, 66, 72, 78, 86, 94] : List Nat)[(x.toInt - 0).toNat]?).getD 102) = 102 := by
    by_cases h0 : x.toInt < 0
    · rw [decide_eq_true h0]
      rfl
    · have h5 : ¬ x.toInt < 7 := fun h5 => h ⟨Int32.le_iff_toInt_le.mpr (Int.not_lt.mp h0), Int32.lt_iff_toInt_lt.mpr h5⟩
      rw [decide_eq_false h0, List.getElem?_eq_none (by show 7 ≤ _; omega)]
      rfl
  refine mX (Nat.le_of_ble_eq_true rfl) ?_
  refine Ev.step rfl rfl ?_
  refine Ev.step rfl rfl ?_
  refine Ev.step rfl rfl ?_
  refine Ev.step rfl rfl ?_
  refine Ev.step rfl rfl ?_
  refine Ev.idx e ?_
  refine Ev.step rfl rfl ?_
  exact Ev.ret rfl rfl rfl
theorem i_lt7 {x : Int32} (h0 : 0 ≤ x) (h1 : x < 7) : x = 0 ∨ x = 1 ∨ x = 2 ∨ x = 3 ∨ x = 4 ∨ x = 5 ∨ x = 6 := by
  have a : (0 : Int) ≤ x.toInt := Int32.le_iff_toInt_le.mp h0
  have b : x.toInt < (7 : Int) := Int32.lt_iff_toInt_lt.mp h1
  rcases (by omega : x.toInt = 0 ∨ x.toInt = 1 ∨ x.toInt = 2 ∨ x.toInt = 3 ∨ x.toInt = 4 ∨ x.toInt = 5 ∨ x.toInt = 6) with h | h | h | h | h | h | h
  · exact .inl (Int32.toInt_inj.mp h)
  · exact .inr (.inl (Int32.toInt_inj.mp h))
  · exact .inr (.inr (.inl (Int32.toInt_inj.mp h)))
  · exact .inr (.inr (.inr (.inl (Int32.toInt_inj.mp h))))
  · exact .inr (.inr (.inr (.inr (.inl (Int32.toInt_inj.mp h)))))
  · exact .inr (.inr (.inr (.inr (.inr (.inl (Int32.toInt_inj.mp h))))))
  · exact .inr (.inr (.inr (.inr (.inr (.inr (Int32.toInt_inj.mp h))))))
