/-! ===== feed ===== -/
set_option maxRecDepth 10000 in
set_option maxHeartbeats 2000000 in
theorem c_feed (a b c d e : Int32) : ∃ m g, Z_X10_feed [.ref 0, .int a, .int b, .int c, .int d, .int e] H0 = some (some (.int 20), MG m g) := by
  refine cX3 (Nat.le_of_ble_eq_true rfl) ?_
  repeat refine Ev.step rfl rfl ?_
  exact Ev.ret rfl rfl ⟨rfl, rfl, fun k => rfl⟩
set_option maxRecDepth 10000 in
set_option maxHeartbeats 2000000 in
theorem m_feed (a b c d e : Int32) (m : Nat) (g : Nat → ab_E) : ∃ hp, Z_X11_feed [.ref 69, .int a, .int b, .int c, .int d, .int e] (MG m g) = some (some (.int 20), hp) := by
  refine mX (Nat.le_of_ble_eq_true rfl) ?_
  repeat refine Ev.step rfl rfl ?_
  exact Ev.ret rfl rfl rfl
