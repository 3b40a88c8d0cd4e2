/-! ===== drawn, end, feed, restore ===== -/
theorem m_isInE (x a b : Int32) (hp : ab_H) : Z_X11_isIn [.int x, .int a, .int b] hp = some (some (.int 0), hp) ∨ Z_X11_isIn [.int x, .int a, .int b] hp = some (some (.int 1), hp) := by
  by_cases h : a ≤ x ∧ x ≤ b
  · right
    refine Rn.of rfl ?_
    refine Rn.step rfl rfl ?_
    refine Rn.step rfl rfl ?_
    refine Rn.step rfl rfl ?_
    refine Rn.br (fun hb => absurd (of_decide_eq_true hb) (Int32.not_lt.mpr h.1)) (fun hb => ?_)
    refine Rn.step rfl rfl ?_
    refine Rn.step rfl rfl ?_
    refine Rn.step rfl rfl ?_
    refine Rn.br (fun hc => absurd (of_decide_eq_true hc) (Int32.not_lt.mpr h.2)) (fun hc => ?_)
    refine Rn.step rfl rfl ?_
    refine Rn.step rfl rfl ?_
    exact Rn.ret rfl rfl
  · left
    exact m_isIn0 (fun p q => h ⟨p, q⟩)
theorem c_isWithinE (x b : Int32) (hp : ab_H) : Z_X10_isWithin [.int x, .int b] hp = some (some (.int 0), hp) ∨ Z_X10_isWithin [.int x, .int b] hp = some (some (.int 1), hp) := by
  by_cases h : x < 1
  · left
    refine Rn.of rfl ?_
    refine Rn.step rfl rfl ?_
    refine Rn.step rfl rfl ?_
    refine Rn.step rfl rfl ?_
    refine Rn.br (fun hb => ?_) (fun hb => absurd h (of_decide_eq_false hb))
    refine Rn.step rfl rfl ?_
    exact Rn.ret rfl rfl
  · by_cases h' : b < x
    · left
      refine Rn.of rfl ?_
      refine Rn.step rfl rfl ?_
      refine Rn.step rfl rfl ?_
      refine Rn.step rfl rfl ?_
      refine Rn.br (fun hb => absurd (of_decide_eq_true hb) h) (fun hb => ?_)
      refine Rn.step rfl rfl ?_
      refine Rn.step rfl rfl ?_
      refine Rn.step rfl rfl ?_
      refine Rn.br (fun hc => ?_) (fun hc => absurd h' (of_decide_eq_false hc))
      refine Rn.step rfl rfl ?_
      exact Rn.ret rfl rfl
    · right
      refine Rn.of rfl ?_
      refine Rn.step rfl rfl ?_
      refine Rn.step rfl rfl ?_
      refine Rn.step rfl rfl ?_
      refine Rn.br (fun hb => absurd (of_decide_eq_true hb) h) (fun hb => ?_)
      refine Rn.step rfl rfl ?_
      refine Rn.step rfl rfl ?_
      refine Rn.step rfl rfl ?_
      refine Rn.br (fun hc => absurd (of_decide_eq_true hc) h') (fun hc => ?_)
      refine Rn.step rfl rfl ?_
      refine Rn.step rfl rfl ?_
      exact Rn.ret rfl rfl
set_option maxRecDepth 10000 in
set_option maxHeartbeats 400000 in
theorem c_drawn (x y : Int32) : ∃ m g, Z_X10_drawn [.ref 0, .int x, .int y] H0 = some (some (.int (-1)), MG m g) := by
  refine cX (Nat.le_of_ble_eq_true rfl) ?_
  refine Ev.step rfl rfl ?_
  refine Ev.step rfl rfl ?_
  rcases c_isWithinE x 60 H0 with h | h
  · refine Ev.call rfl rfl h ?_
    repeat refine Ev.step rfl rfl ?_
    exact Ev.ret rfl rfl rfl
  · refine Ev.call rfl rfl h ?_
    repeat refine Ev.step rfl rfl ?_
    exact Ev.ret rfl rfl rfl
set_option maxRecDepth 10000 in
set_option maxHeartbeats 400000 in
theorem m_drawn (x y : Int32) (m : Nat) (g : Nat → ab_E) : ∃ hp, Z_X11_drawn [.ref 69, .int x, .int y] (MG m g) = some (some (.int (-1)), hp) := by
  refine mX (Nat.le_of_ble_eq_true rfl) ?_
  repeat refine Ev.step rfl rfl ?_
  rcases m_isInE x 1 60 (MT m g) with h | h
  · refine Ev.call rfl rfl h ?_
    repeat refine Ev.step rfl rfl ?_
    exact Ev.ret rfl rfl rfl
  · refine Ev.call rfl rfl h ?_
    repeat refine Ev.step rfl rfl ?_
    exact Ev.ret rfl rfl rfl
set_option maxRecDepth 10000 in
set_option maxHeartbeats 400000 in
theorem c_end_0 : ∃ m g, Z_X10_end [.ref 0, .int 0] H0 = some (some (.int 1), MG m g) := by
  refine cX3 (Nat.le_of_ble_eq_true rfl) ?_
  repeat refine Ev.step rfl rfl ?_
  exact Ev.ret rfl rfl ⟨rfl, rfl, fun k => rfl⟩
set_option maxRecDepth 10000 in
set_option maxHeartbeats 400000 in
theorem m_end_0 (m : Nat) (g : Nat → ab_E) : ∃ hp, Z_X11_end [.ref 69, .int 0] (MG m g) = some (some (.int 1), hp) := by
  refine mX (Nat.le_of_ble_eq_true rfl) ?_
  repeat refine Ev.step rfl rfl ?_
  exact Ev.ret rfl rfl rfl
theorem i_0 {x : Int32} (h : decide (x < 0) = false) (h' : x ≤ 0) : x = 0 := Int32.le_antisymm h' (Int32.not_lt.mp (of_decide_eq_false h))
set_option maxRecDepth 10000 in
set_option maxHeartbeats 400000 in
theorem c_end_n {x : Int32} (h0 : x ≠ 0) : ∃ m g, Z_X10_end [.ref 0, .int x] H0 = some (some (.int 0), MG m g) := by
  refine cX (Nat.le_of_ble_eq_true rfl) ?_
  refine Ev.step rfl rfl ?_
  refine Ev.step rfl rfl ?_
  refine Ev.br (fun hb => ?_) (fun hb => ?_)
  · repeat refine Ev.step rfl rfl ?_
    exact Ev.ret rfl rfl rfl
  · refine Ev.step rfl rfl ?_
    refine Ev.step rfl rfl ?_
    refine Ev.step rfl rfl ?_
    refine Ev.step rfl rfl ?_
    refine Ev.step rfl rfl ?_
    refine Ev.br (fun hc => absurd (i_0 hb (of_decide_eq_true hc)) h0) (fun hc => ?_)
    repeat refine Ev.step rfl rfl ?_
    exact Ev.ret rfl rfl rfl
set_option maxRecDepth 10000 in
set_option maxHeartbeats 400000 in
theorem m_end_n {x : Int32} (h0 : x ≠ 0) (m : Nat) (g : Nat → ab_E) : ∃ hp, Z_X11_end [.ref 69, .int x] (MG m g) = some (some (.int 0), hp) := by
  refine mX (Nat.le_of_ble_eq_true rfl) ?_
  refine Ev.step rfl rfl ?_
  refine Ev.step rfl rfl ?_
  refine Ev.step rfl rfl ?_
  refine Ev.step rfl rfl ?_
  refine Ev.step rfl rfl ?_
  refine Ev.br (fun hb => ?_) (fun hb => ?_)
  · repeat refine Ev.step rfl rfl ?_
    exact Ev.ret rfl rfl rfl
  · refine Ev.step rfl rfl ?_
    refine Ev.step rfl rfl ?_
    refine Ev.step rfl rfl ?_
    refine Ev.step rfl rfl ?_
    refine Ev.br (fun hc => absurd (i_0 hb (of_decide_eq_true hc)) h0) (fun hc => ?_)
    repeat refine Ev.step rfl rfl ?_
    exact Ev.ret rfl rfl rfl
set_option maxRecDepth 10000 in
set_option maxHeartbeats 400000 in
theorem c_restore_0 : ∃ m g, Z_X10_restore [.ref 0, .int 0] H0 = some (some (.int 0), MG m g) := by
  refine cX (Nat.le_of_ble_eq_true rfl) ?_
  repeat refine Ev.step rfl rfl ?_
  exact Ev.ret rfl rfl rfl
set_option maxRecDepth 10000 in
set_option maxHeartbeats 400000 in
theorem m_restore_0 (m : Nat) (g : Nat → ab_E) : ∃ hp, Z_X11_restore [.ref 69, .int 0] (MG m g) = some (some (.int 0), hp) := by
  refine mX (Nat.le_of_ble_eq_true rfl) ?_
  repeat refine Ev.step rfl rfl ?_
  exact Ev.ret rfl rfl rfl
set_option maxRecDepth 10000 in
set_option maxHeartbeats 400000 in
theorem c_restore_1 : ∃ m g, Z_X10_restore [.ref 0, .int 1] H0 = some (some (.int 0), MG m g) := by
  refine cX (Nat.le_of_ble_eq_true rfl) ?_
  repeat refine Ev.step rfl rfl ?_
  exact Ev.ret rfl rfl rfl
set_option maxRecDepth 10000 in
set_option maxHeartbeats 400000 in
theorem m_restore_1 (m : Nat) (g : Nat → ab_E) : ∃ hp, Z_X11_restore [.ref 69, .int 1] (MG m g) = some (some (.int 0), hp) := by
  refine mX (Nat.le_of_ble_eq_true rfl) ?_
  repeat refine Ev.step rfl rfl ?_
  exact Ev.ret rfl rfl rfl
set_option maxRecDepth 10000 in
set_option maxHeartbeats 400000 in
theorem m_restore_n {x : Int32} (h0 : x ≠ 0) (h1 : x ≠ 1) (m : Nat) (g : Nat → ab_E) : ∃ hp, Z_X11_restore [.ref 69, .int x] (MG m g) = some (some (.int 0), hp) := by
  refine mX (Nat.le_of_ble_eq_true rfl) ?_
  repeat refine Ev.step rfl rfl ?_
  refine Ev.call rfl rfl (m_isIn0 (x := x) (a := 0) (b := 1) (fun a b => (i_01 a b).elim h0 h1)) ?_
  repeat refine Ev.step rfl rfl ?_
  exact Ev.ret rfl rfl rfl
