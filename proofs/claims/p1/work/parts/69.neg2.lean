/-! ===== more of them ===== -/
set_option maxRecDepth 10000 in
set_option maxHeartbeats 1000000 in
theorem c_crossed (x y : Int32) : ∃ m g, Z_X10_crossed [.ref 0, .int x, .int y] H0 = some (some (.int (-1)), MG m g) := by
  refine cX (Nat.le_of_ble_eq_true rfl) ?_
  repeat (first | refine Ev.step rfl rfl ?_ | exact Ev.ret rfl rfl rfl | refine Ev.callV rfl rfl rfl (c_isSlot _ _) ?_ | refine Ev.callV rfl rfl rfl (c_isMan _) ?_ | refine Ev.callV rfl rfl rfl (c_isGood _) ?_ | refine Ev.callV rfl rfl rfl (c_areLivingTwo _ _) ?_)
set_option maxRecDepth 10000 in
set_option maxHeartbeats 1000000 in
theorem m_crossed (x y : Int32) (m : Nat) (g : Nat → ab_E) : ∃ hp, Z_X11_crossed [.ref 69, .int x, .int y] (MG m g) = some (some (.int (-1)), hp) := by
  refine mX (Nat.le_of_ble_eq_true rfl) ?_
  repeat (first | refine Ev.step rfl rfl ?_ | exact Ev.ret rfl rfl rfl | refine Ev.callV rfl rfl rfl (m_isPlace _ _ m g) ?_ | refine Ev.callV rfl rfl rfl (m_isMan _ m g) ?_ | refine Ev.callV rfl rfl rfl (m_isGood _ m g) ?_)
set_option maxRecDepth 10000 in
set_option maxHeartbeats 1000000 in
theorem c_apart (x y : Int32) : ∃ m g, Z_X10_apart [.ref 0, .int x, .int y] H0 = some (some (.int (-1)), MG m g) := by
  refine cX (Nat.le_of_ble_eq_true rfl) ?_
  repeat (first | refine Ev.step rfl rfl ?_ | exact Ev.ret rfl rfl rfl | refine Ev.callV rfl rfl rfl (c_isSlot _ _) ?_ | refine Ev.callV rfl rfl rfl (c_isMan _) ?_ | refine Ev.callV rfl rfl rfl (c_isGood _) ?_ | refine Ev.callV rfl rfl rfl (c_areLivingTwo _ _) ?_)
set_option maxRecDepth 10000 in
set_option maxHeartbeats 1000000 in
theorem m_apart (x y : Int32) (m : Nat) (g : Nat → ab_E) : ∃ hp, Z_X11_apart [.ref 69, .int x, .int y] (MG m g) = some (some (.int (-1)), hp) := by
  refine mX (Nat.le_of_ble_eq_true rfl) ?_
  repeat (first | refine Ev.step rfl rfl ?_ | exact Ev.ret rfl rfl rfl | refine Ev.callV rfl rfl rfl (m_isPlace _ _ m g) ?_ | refine Ev.callV rfl rfl rfl (m_isMan _ m g) ?_ | refine Ev.callV rfl rfl rfl (m_isGood _ m g) ?_)
set_option maxRecDepth 10000 in
set_option maxHeartbeats 1000000 in
theorem c_die (x : Int32) : ∃ m g, Z_X10_die [.ref 0, .int x] H0 = some (some (.int (-1)), MG m g) := by
  refine cX (Nat.le_of_ble_eq_true rfl) ?_
  repeat (first | refine Ev.step rfl rfl ?_ | exact Ev.ret rfl rfl rfl | refine Ev.callV rfl rfl rfl (c_isSlot _ _) ?_ | refine Ev.callV rfl rfl rfl (c_isMan _) ?_ | refine Ev.callV rfl rfl rfl (c_isGood _) ?_ | refine Ev.callV rfl rfl rfl (c_areLivingTwo _ _) ?_)
set_option maxRecDepth 10000 in
set_option maxHeartbeats 1000000 in
theorem m_die (x : Int32) (m : Nat) (g : Nat → ab_E) : ∃ hp, Z_X11_die [.ref 69, .int x] (MG m g) = some (some (.int (-1)), hp) := by
  refine mX (Nat.le_of_ble_eq_true rfl) ?_
  repeat (first | refine Ev.step rfl rfl ?_ | exact Ev.ret rfl rfl rfl | refine Ev.callV rfl rfl rfl (m_isPlace _ _ m g) ?_ | refine Ev.callV rfl rfl rfl (m_isMan _ m g) ?_ | refine Ev.callV rfl rfl rfl (m_isGood _ m g) ?_)
set_option maxRecDepth 10000 in
set_option maxHeartbeats 1000000 in
theorem c_goes (x : Int32) : ∃ m g, Z_X10_goes [.ref 0, .int x] H0 = some (some (.int (-1)), MG m g) := by
  refine cX (Nat.le_of_ble_eq_true rfl) ?_
  repeat (first | refine Ev.step rfl rfl ?_ | exact Ev.ret rfl rfl rfl | refine Ev.callV rfl rfl rfl (c_isSlot _ _) ?_ | refine Ev.callV rfl rfl rfl (c_isMan _) ?_ | refine Ev.callV rfl rfl rfl (c_isGood _) ?_ | refine Ev.callV rfl rfl rfl (c_areLivingTwo _ _) ?_)
set_option maxRecDepth 10000 in
set_option maxHeartbeats 1000000 in
theorem m_goes (x : Int32) (m : Nat) (g : Nat → ab_E) : ∃ hp, Z_X11_goes [.ref 69, .int x] (MG m g) = some (some (.int (-1)), hp) := by
  refine mX (Nat.le_of_ble_eq_true rfl) ?_
  repeat (first | refine Ev.step rfl rfl ?_ | exact Ev.ret rfl rfl rfl | refine Ev.callV rfl rfl rfl (m_isPlace _ _ m g) ?_ | refine Ev.callV rfl rfl rfl (m_isMan _ m g) ?_ | refine Ev.callV rfl rfl rfl (m_isGood _ m g) ?_)
set_option maxRecDepth 10000 in
set_option maxHeartbeats 1000000 in
theorem c_crosses (x : Int32) : ∃ m g, Z_X10_crosses [.ref 0, .int x] H0 = some (some (.int (-1)), MG m g) := by
  refine cX (Nat.le_of_ble_eq_true rfl) ?_
  repeat (first | refine Ev.step rfl rfl ?_ | exact Ev.ret rfl rfl rfl | refine Ev.callV rfl rfl rfl (c_isSlot _ _) ?_ | refine Ev.callV rfl rfl rfl (c_isMan _) ?_ | refine Ev.callV rfl rfl rfl (c_isGood _) ?_ | refine Ev.callV rfl rfl rfl (c_areLivingTwo _ _) ?_)
set_option maxRecDepth 10000 in
set_option maxHeartbeats 1000000 in
theorem m_crosses (x : Int32) (m : Nat) (g : Nat → ab_E) : ∃ hp, Z_X11_crosses [.ref 69, .int x] (MG m g) = some (some (.int (-1)), hp) := by
  refine mX (Nat.le_of_ble_eq_true rfl) ?_
  repeat (first | refine Ev.step rfl rfl ?_ | exact Ev.ret rfl rfl rfl | refine Ev.callV rfl rfl rfl (m_isPlace _ _ m g) ?_ | refine Ev.callV rfl rfl rfl (m_isMan _ m g) ?_ | refine Ev.callV rfl rfl rfl (m_isGood _ m g) ?_)
set_option maxRecDepth 10000 in
set_option maxHeartbeats 1000000 in
theorem c_comes (x y : Int32) : ∃ m g, Z_X10_comes [.ref 0, .int x, .int y] H0 = some (some (.int (-1)), MG m g) := by
  refine cX (Nat.le_of_ble_eq_true rfl) ?_
  repeat (first | refine Ev.step rfl rfl ?_ | exact Ev.ret rfl rfl rfl | refine Ev.callV rfl rfl rfl (c_isSlot _ _) ?_ | refine Ev.callV rfl rfl rfl (c_isMan _) ?_ | refine Ev.callV rfl rfl rfl (c_isGood _) ?_ | refine Ev.callV rfl rfl rfl (c_areLivingTwo _ _) ?_)
set_option maxRecDepth 10000 in
set_option maxHeartbeats 1000000 in
theorem m_comes (x y : Int32) (m : Nat) (g : Nat → ab_E) : ∃ hp, Z_X11_comes [.ref 69, .int x, .int y] (MG m g) = some (some (.int (-1)), hp) := by
  refine mX (Nat.le_of_ble_eq_true rfl) ?_
  repeat (first | refine Ev.step rfl rfl ?_ | exact Ev.ret rfl rfl rfl | refine Ev.callV rfl rfl rfl (m_isPlace _ _ m g) ?_ | refine Ev.callV rfl rfl rfl (m_isMan _ m g) ?_ | refine Ev.callV rfl rfl rfl (m_isGood _ m g) ?_)
set_option maxRecDepth 10000 in
set_option maxHeartbeats 1000000 in
theorem c_without (x y z w : Int32) : ∃ m g, Z_X10_without [.ref 0, .int x, .int y, .int z, .int w] H0 = some (some (.int (-1)), MG m g) := by
  refine cX (Nat.le_of_ble_eq_true rfl) ?_
  repeat (first | refine Ev.step rfl rfl ?_ | exact Ev.ret rfl rfl rfl | refine Ev.callV rfl rfl rfl (c_isSlot _ _) ?_ | refine Ev.callV rfl rfl rfl (c_isMan _) ?_ | refine Ev.callV rfl rfl rfl (c_isGood _) ?_ | refine Ev.callV rfl rfl rfl (c_areLivingTwo _ _) ?_)
set_option maxRecDepth 10000 in
set_option maxHeartbeats 1000000 in
theorem m_without (x y z w : Int32) (m : Nat) (g : Nat → ab_E) : ∃ hp, Z_X11_without [.ref 69, .int x, .int y, .int z, .int w] (MG m g) = some (some (.int (-1)), hp) := by
  refine mX (Nat.le_of_ble_eq_true rfl) ?_
  repeat (first | refine Ev.step rfl rfl ?_ | exact Ev.ret rfl rfl rfl | refine Ev.callV rfl rfl rfl (m_isPlace _ _ m g) ?_ | refine Ev.callV rfl rfl rfl (m_isMan _ m g) ?_ | refine Ev.callV rfl rfl rfl (m_isGood _ m g) ?_)
set_option maxRecDepth 10000 in
set_option maxHeartbeats 1000000 in
theorem c_meet (x y : Int32) : ∃ m g, Z_X10_meet [.ref 0, .int x, .int y] H0 = some (some (.int (-1)), MG m g) := by
  refine cX (Nat.le_of_ble_eq_true rfl) ?_
  repeat (first | refine Ev.step rfl rfl ?_ | exact Ev.ret rfl rfl rfl | refine Ev.callV rfl rfl rfl (c_isSlot _ _) ?_ | refine Ev.callV rfl rfl rfl (c_isMan _) ?_ | refine Ev.callV rfl rfl rfl (c_isGood _) ?_ | refine Ev.callV rfl rfl rfl (c_areLivingTwo _ _) ?_)
set_option maxRecDepth 10000 in
set_option maxHeartbeats 1000000 in
theorem m_meet (x y : Int32) (m : Nat) (g : Nat → ab_E) : ∃ hp, Z_X11_meet [.ref 69, .int x, .int y] (MG m g) = some (some (.int (-1)), hp) := by
  refine mX (Nat.le_of_ble_eq_true rfl) ?_
  repeat (first | refine Ev.step rfl rfl ?_ | exact Ev.ret rfl rfl rfl | refine Ev.callV rfl rfl rfl (m_isPlace _ _ m g) ?_ | refine Ev.callV rfl rfl rfl (m_isMan _ m g) ?_ | refine Ev.callV rfl rfl rfl (m_isGood _ m g) ?_)
set_option maxRecDepth 10000 in
set_option maxHeartbeats 1000000 in
theorem c_hunger (x y z : Int32) : ∃ m g, Z_X10_hunger [.ref 0, .int x, .int y, .int z] H0 = some (some (.int (-1)), MG m g) := by
  refine cX (Nat.le_of_ble_eq_true rfl) ?_
  repeat (first | refine Ev.step rfl rfl ?_ | exact Ev.ret rfl rfl rfl | refine Ev.callV rfl rfl rfl (c_isSlot _ _) ?_ | refine Ev.callV rfl rfl rfl (c_isMan _) ?_ | refine Ev.callV rfl rfl rfl (c_isGood _) ?_ | refine Ev.callV rfl rfl rfl (c_areLivingTwo _ _) ?_)
set_option maxRecDepth 10000 in
set_option maxHeartbeats 1000000 in
theorem m_hunger (x y z : Int32) (m : Nat) (g : Nat → ab_E) : ∃ hp, Z_X11_hunger [.ref 69, .int x, .int y, .int z] (MG m g) = some (some (.int (-1)), hp) := by
  refine mX (Nat.le_of_ble_eq_true rfl) ?_
  repeat (first | refine Ev.step rfl rfl ?_ | exact Ev.ret rfl rfl rfl | refine Ev.callV rfl rfl rfl (m_isPlace _ _ m g) ?_ | refine Ev.callV rfl rfl rfl (m_isMan _ m g) ?_ | refine Ev.callV rfl rfl rfl (m_isGood _ m g) ?_)
set_option maxRecDepth 10000 in
set_option maxHeartbeats 1000000 in
theorem c_odds (x y z : Int32) : ∃ m g, Z_X10_odds [.ref 0, .int x, .int y, .int z] H0 = some (some (.int (-1)), MG m g) := by
  refine cX (Nat.le_of_ble_eq_true rfl) ?_
  repeat (first | refine Ev.step rfl rfl ?_ | exact Ev.ret rfl rfl rfl | refine Ev.callV rfl rfl rfl (c_isSlot _ _) ?_ | refine Ev.callV rfl rfl rfl (c_isMan _) ?_ | refine Ev.callV rfl rfl rfl (c_isGood _) ?_ | refine Ev.callV rfl rfl rfl (c_areLivingTwo _ _) ?_)
set_option maxRecDepth 10000 in
set_option maxHeartbeats 1000000 in
theorem m_odds (x y z : Int32) (m : Nat) (g : Nat → ab_E) : ∃ hp, Z_X11_odds [.ref 69, .int x, .int y, .int z] (MG m g) = some (some (.int (-1)), hp) := by
  refine mX (Nat.le_of_ble_eq_true rfl) ?_
  repeat (first | refine Ev.step rfl rfl ?_ | exact Ev.ret rfl rfl rfl | refine Ev.callV rfl rfl rfl (m_isPlace _ _ m g) ?_ | refine Ev.callV rfl rfl rfl (m_isMan _ m g) ?_ | refine Ev.callV rfl rfl rfl (m_isGood _ m g) ?_)
