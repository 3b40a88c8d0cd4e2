/-! ===== feed, restore, logged, count ===== -/
theorem i_lt2 {x : Int32} (h0 : decide (x < 0) = false) (h1 : x < 2) : x = 0 ∨ x = 1 := by
  have a : (0 : Int) ≤ x.toInt := Int32.le_iff_toInt_le.mp (Int32.not_lt.mp (of_decide_eq_false h0))
  have b : x.toInt < (2 : Int) := Int32.lt_iff_toInt_lt.mp h1
  rcases (by omega : x.toInt = 0 ∨ x.toInt = 1) with h | h
  · exact .inl (Int32.toInt_inj.mp h)
  · exact .inr (Int32.toInt_inj.mp h)
theorem i_lt4 {x : Int32} (h0 : decide (x < 0) = false) (h1 : x < 4) : x = 0 ∨ x = 1 ∨ x = 2 ∨ x = 3 := by
  have a : (0 : Int) ≤ x.toInt := Int32.le_iff_toInt_le.mp (Int32.not_lt.mp (of_decide_eq_false h0))
  have b : x.toInt < (4 : Int) := Int32.lt_iff_toInt_lt.mp h1
  rcases (by omega : x.toInt = 0 ∨ x.toInt = 1 ∨ x.toInt = 2 ∨ x.toInt = 3) with h | h | h | h
  · exact .inl (Int32.toInt_inj.mp h)
  · exact .inr (.inl (Int32.toInt_inj.mp h))
  · exact .inr (.inr (.inl (Int32.toInt_inj.mp h)))
  · exact .inr (.inr (.inr (Int32.toInt_inj.mp h)))
theorem i_lt5 {x : Int32} (h0 : decide (x < 0) = false) (h1 : x < 5) : x = 0 ∨ x = 1 ∨ x = 2 ∨ x = 3 ∨ x = 4 := by
  have a : (0 : Int) ≤ x.toInt := Int32.le_iff_toInt_le.mp (Int32.not_lt.mp (of_decide_eq_false h0))
  have b : x.toInt < (5 : Int) := Int32.lt_iff_toInt_lt.mp h1
  rcases (by omega : x.toInt = 0 ∨ x.toInt = 1 ∨ x.toInt = 2 ∨ x.toInt = 3 ∨ x.toInt = 4) with h | h | h | h | h
  · exact .inl (Int32.toInt_inj.mp h)
  · exact .inr (.inl (Int32.toInt_inj.mp h))
  · exact .inr (.inr (.inl (Int32.toInt_inj.mp h)))
  · exact .inr (.inr (.inr (.inl (Int32.toInt_inj.mp h))))
  · exact .inr (.inr (.inr (.inr (Int32.toInt_inj.mp h))))
theorem Ev.idx {T : Nat → Option ab_A} {i j : Nat} {s : ab_S} {Q : ab_O → Prop} (e : i = j) (h : Ev T j s Q) : Ev T i s Q := e ▸ h
set_option maxRecDepth 10000 in
set_option maxHeartbeats 800000 in
theorem c_restore_n {x : Int32} (h0 : x ≠ 0) (h1 : x ≠ 1) : ∃ m g, Z_X10_restore [.ref 0, .int x] H0 = some (some (.int 0), MG m g) := by
  refine cX (Nat.le_of_ble_eq_true rfl) ?_
  refine Ev.step rfl rfl ?_
  refine Ev.step rfl rfl ?_
  refine Ev.br (fun hb => ?_) (fun hb => ?_)
  · repeat refine Ev.step rfl rfl ?_
    exact Ev.ret rfl rfl rfl
  · refine Ev.step rfl rfl ?_
    refine Ev.step rfl rfl ?_
    refine Ev.step rfl rfl ?_
    refine Ev.br (fun hc => ((i_lt2 hb (of_decide_eq_true hc)).elim h0 h1).elim) (fun hc => ?_)
    repeat refine Ev.step rfl rfl ?_
    exact Ev.ret rfl rfl rfl
set_option maxRecDepth 10000 in
set_option maxHeartbeats 800000 in
theorem c_logged_0 : ∃ m g, Z_X10_logged [.ref 0, .int 0] H0 = some (some (.int (-1)), MG m g) := by
  refine cX (Nat.le_of_ble_eq_true rfl) ?_
  repeat refine Ev.step rfl rfl ?_
  exact Ev.ret rfl rfl rfl
set_option maxRecDepth 10000 in
set_option maxHeartbeats 800000 in
theorem c_logged_1 : ∃ m g, Z_X10_logged [.ref 0, .int 1] H0 = some (some (.int (-1)), MG m g) := by
  refine cX (Nat.le_of_ble_eq_true rfl) ?_
  repeat refine Ev.step rfl rfl ?_
  exact Ev.ret rfl rfl rfl
set_option maxRecDepth 10000 in
set_option maxHeartbeats 800000 in
theorem c_logged_2 : ∃ m g, Z_X10_logged [.ref 0, .int 2] H0 = some (some (.int (-1)), MG m g) := by
  refine cX (Nat.le_of_ble_eq_true rfl) ?_
  repeat refine Ev.step rfl rfl ?_
  exact Ev.ret rfl rfl rfl
set_option maxRecDepth 10000 in
set_option maxHeartbeats 800000 in
theorem c_logged_3 : ∃ m g, Z_X10_logged [.ref 0, .int 3] H0 = some (some (.int (-1)), MG m g) := by
  refine cX (Nat.le_of_ble_eq_true rfl) ?_
  repeat refine Ev.step rfl rfl ?_
  exact Ev.ret rfl rfl rfl
set_option maxRecDepth 10000 in
set_option maxHeartbeats 800000 in
theorem c_logged (x : Int32) : ∃ m g, Z_X10_logged [.ref 0, .int x] H0 = some (some (.int (-1)), MG m g) := by
  by_cases h : 0 ≤ x ∧ x < 4
  · rcases i_lt4 (decide_eq_false (Int32.not_lt.mpr h.1)) h.2 with h | h | h | h <;> subst h
    · exact c_logged_0
    · exact c_logged_1
    · exact c_logged_2
    · exact c_logged_3
  refine cX (Nat.le_of_ble_eq_true rfl) ?_
  refine Ev.step rfl rfl ?_
  refine Ev.step rfl rfl ?_
  refine Ev.br (fun hb => ?_) (fun hb => ?_)
  · repeat refine Ev.step rfl rfl ?_
    exact Ev.ret rfl rfl rfl
  · refine Ev.step rfl rfl ?_
    refine Ev.step rfl rfl ?_
    refine Ev.step rfl rfl ?_
    refine Ev.step rfl rfl ?_
    refine Ev.step rfl rfl ?_
    refine Ev.br (fun hc => ?_) (fun hc => (h ⟨Int32.not_lt.mp (of_decide_eq_false hb), Int32.not_le.mp (of_decide_eq_false hc)⟩).elim)
    repeat refine Ev.step rfl rfl ?_
    exact Ev.ret rfl rfl rfl
set_option maxRecDepth 10000 in
set_option maxHeartbeats 800000 in
theorem c_count_0 : ∃ m g, Z_X10_count [.ref 0, .int 0] H0 = some (some (.int 0), MG m g) := by
  refine cX (Nat.le_of_ble_eq_true rfl) ?_
  repeat refine Ev.step rfl rfl ?_
  exact Ev.ret rfl rfl rfl
set_option maxRecDepth 10000 in
set_option maxHeartbeats 800000 in
theorem m_count_0 (m : Nat) (g : Nat → ab_E) : ∃ hp, Z_X11_count [.ref 69, .int 0] (MG m g) = some (some (.int 0), hp) := by
  refine mX (Nat.le_of_ble_eq_true rfl) ?_
  repeat refine Ev.step rfl rfl ?_
  exact Ev.ret rfl rfl rfl
set_option maxRecDepth 10000 in
set_option maxHeartbeats 800000 in
theorem c_count_1 : ∃ m g, Z_X10_count [.ref 0, .int 1] H0 = some (some (.int 0), MG m g) := by
  refine cX (Nat.le_of_ble_eq_true rfl) ?_
  repeat refine Ev.step rfl rfl ?_
  exact Ev.ret rfl rfl rfl
set_option maxRecDepth 10000 in
set_option maxHeartbeats 800000 in
theorem m_count_1 (m : Nat) (g : Nat → ab_E) : ∃ hp, Z_X11_count [.ref 69, .int 1] (MG m g) = some (some (.int 0), hp) := by
  refine mX (Nat.le_of_ble_eq_true rfl) ?_
  repeat refine Ev.step rfl rfl ?_
  exact Ev.ret rfl rfl rfl
set_option maxRecDepth 10000 in
set_option maxHeartbeats 800000 in
theorem c_count_2 : ∃ m g, Z_X10_count [.ref 0, .int 2] H0 = some (some (.int 10), MG m g) := by
  refine cX (Nat.le_of_ble_eq_true rfl) ?_
  repeat refine Ev.step rfl rfl ?_
  exact Ev.ret rfl rfl rfl
set_option maxRecDepth 10000 in
set_option maxHeartbeats 800000 in
theorem m_count_2 (m : Nat) (g : Nat → ab_E) : ∃ hp, Z_X11_count [.ref 69, .int 2] (MG m g) = some (some (.int 10), hp) := by
  refine mX (Nat.le_of_ble_eq_true rfl) ?_
  repeat refine Ev.step rfl rfl ?_
  exact Ev.ret rfl rfl rfl
set_option maxRecDepth 10000 in
set_option maxHeartbeats 800000 in
theorem c_count_3 : ∃ m g, Z_X10_count [.ref 0, .int 3] H0 = some (some (.int 0), MG m g) := by
  refine cX (Nat.le_of_ble_eq_true rfl) ?_
  repeat refine Ev.step rfl rfl ?_
  exact Ev.ret rfl rfl rfl
set_option maxRecDepth 10000 in
set_option maxHeartbeats 800000 in
theorem m_count_3 (m : Nat) (g : Nat → ab_E) : ∃ hp, Z_X11_count [.ref 69, .int 3] (MG m g) = some (some (.int 0), hp) := by
  refine mX (Nat.le_of_ble_eq_true rfl) ?_
  repeat refine Ev.step rfl rfl ?_
  exact Ev.ret rfl rfl rfl
set_option maxRecDepth 10000 in
set_option maxHeartbeats 800000 in
theorem c_count_4 : ∃ m g, Z_X10_count [.ref 0, .int 4] H0 = some (some (.int 0), MG m g) := by
  refine cX (Nat.le_of_ble_eq_true rfl) ?_
  repeat refine Ev.step rfl rfl ?_
  exact Ev.ret rfl rfl rfl
set_option maxRecDepth 10000 in
set_option maxHeartbeats 800000 in
theorem m_count_4 (m : Nat) (g : Nat → ab_E) : ∃ hp, Z_X11_count [.ref 69, .int 4] (MG m g) = some (some (.int 0), hp) := by
  refine mX (Nat.le_of_ble_eq_true rfl) ?_
  repeat refine Ev.step rfl rfl ?_
  exact Ev.ret rfl rfl rfl
set_option maxRecDepth 10000 in
set_option maxHeartbeats 800000 in
theorem c_count_n {x : Int32} (h : ¬ (0 ≤ x ∧ x < 5)) : ∃ m g, Z_X10_count [.ref 0, .int x] H0 = some (some (.int (-1)), MG m g) := by
  have e : cond (decide (x.toInt < 0)) 76 ((([36, 44, 52, 60, 68] : List Nat)[(x.toInt - 0).toNat]?).getD 76) = 76 := by
    by_cases h0 : x.toInt < 0
    · rw [decide_eq_true h0]
      rfl
    · have h5 : ¬ x.toInt < 5 := fun h5 => h ⟨Int32.le_iff_toInt_le.mpr (Int.not_lt.mp h0), Int32.lt_iff_toInt_lt.mpr h5⟩
      rw [decide_eq_false h0, List.getElem?_eq_none (by show 5 ≤ _; omega)]
      rfl
  refine cX (Nat.le_of_ble_eq_true rfl) ?_
  refine Ev.step rfl rfl ?_
  refine Ev.step rfl rfl ?_
  refine Ev.idx e ?_
  refine Ev.step rfl rfl ?_
  exact Ev.ret rfl rfl rfl
