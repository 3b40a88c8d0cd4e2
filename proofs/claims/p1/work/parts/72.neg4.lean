/-! ===== more operations that answer -1 ===== -/
set_option maxRecDepth 10000 in
set_option maxHeartbeats 400000 in
theorem c_which : ∃ m g, Z_X10_which [.ref 0] H0 = some (some (.int (-1)), MG m g) := by
  refine cX3 (Nat.le_of_ble_eq_true rfl) ?_
  repeat refine Ev.step rfl rfl ?_
  exact Ev.ret rfl rfl ⟨rfl, rfl, fun k => rfl⟩
set_option maxRecDepth 10000 in
set_option maxHeartbeats 400000 in
theorem c_sentence : ∃ m g, Z_X10_sentence [.ref 0] H0 = some (some (.int (-1)), MG m g) := by
  refine cX3 (Nat.le_of_ble_eq_true rfl) ?_
  repeat refine Ev.step rfl rfl ?_
  exact Ev.ret rfl rfl ⟨rfl, rfl, fun k => rfl⟩
set_option maxRecDepth 10000 in
set_option maxHeartbeats 400000 in
theorem c_said (x : Int32) : ∃ m g, Z_X10_said [.ref 0, .int x] H0 = some (some (.int (-1)), MG m g) := by
  refine cX (Nat.le_of_ble_eq_true rfl) ?_
  repeat refine Ev.step rfl rfl ?_
  exact Ev.ret rfl rfl rfl
set_option maxRecDepth 10000 in
set_option maxHeartbeats 400000 in
theorem m_said (x : Int32) (m : Nat) (g : Nat → ab_E) : ∃ hp, Z_X11_said [.ref 69, .int x] (MG m g) = some (some (.int (-1)), hp) := by
  refine mX (Nat.le_of_ble_eq_true rfl) ?_
  repeat refine Ev.step rfl rfl ?_
  exact Ev.ret rfl rfl rfl
set_option maxRecDepth 10000 in
set_option maxHeartbeats 400000 in
theorem m_logged (x : Int32) (m : Nat) (g : Nat → ab_E) : ∃ hp, Z_X11_logged [.ref 69, .int x] (MG m g) = some (some (.int (-1)), hp) := by
  refine mX (Nat.le_of_ble_eq_true rfl) ?_
  repeat refine Ev.step rfl rfl ?_
  exact Ev.ret rfl rfl rfl
set_option maxRecDepth 10000 in
set_option maxHeartbeats 400000 in
theorem m_hoard (x y z : Int32) (m : Nat) (g : Nat → ab_E) : ∃ hp, Z_X11_hoard [.ref 69, .int x, .int y, .int z] (MG m g) = some (some (.int (-1)), hp) := by
  refine mX (Nat.le_of_ble_eq_true rfl) ?_
  repeat refine Ev.step rfl rfl ?_
  refine Ev.callV rfl rfl rfl (m_isPlace x y m g) ?_
  repeat refine Ev.step rfl rfl ?_
  exact Ev.ret rfl rfl rfl
set_option maxRecDepth 10000 in
set_option maxHeartbeats 400000 in
theorem m_bare (x y z : Int32) (m : Nat) (g : Nat → ab_E) : ∃ hp, Z_X11_bare [.ref 69, .int x, .int y, .int z] (MG m g) = some (some (.int (-1)), hp) := by
  refine mX (Nat.le_of_ble_eq_true rfl) ?_
  repeat refine Ev.step rfl rfl ?_
  refine Ev.callV rfl rfl rfl (m_isPlace x y m g) ?_
  repeat refine Ev.step rfl rfl ?_
  exact Ev.ret rfl rfl rfl
set_option maxRecDepth 10000 in
set_option maxHeartbeats 400000 in
theorem m_waste (x y z : Int32) (m : Nat) (g : Nat → ab_E) : ∃ hp, Z_X11_waste [.ref 69, .int x, .int y, .int z] (MG m g) = some (some (.int (-1)), hp) := by
  refine mX (Nat.le_of_ble_eq_true rfl) ?_
  repeat refine Ev.step rfl rfl ?_
  refine Ev.callV rfl rfl rfl (m_isPlace x y m g) ?_
  repeat refine Ev.step rfl rfl ?_
  exact Ev.ret rfl rfl rfl
set_option maxRecDepth 10000 in
set_option maxHeartbeats 400000 in
theorem c_price (x y : Int32) : ∃ m g, Z_X10_price [.ref 0, .int x, .int y] H0 = some (some (.int (-1)), MG m g) := by
  refine cX (Nat.le_of_ble_eq_true rfl) ?_
  refine Ev.step rfl rfl ?_
  refine Ev.step rfl rfl ?_
  refine Ev.br (fun hb => ?_) (fun hb => ?_)
  · repeat refine Ev.step rfl rfl ?_
    exact Ev.ret rfl rfl rfl
  · refine Ev.step rfl rfl ?_
    refine Ev.step rfl rfl ?_
    refine Ev.step rfl rfl ?_
    refine Ev.step rfl rfl ?_
    refine Ev.br (fun hc => ?_) (fun hc => absurd ((i_nl hb).symm.trans hc) (by decide))
    repeat refine Ev.step rfl rfl ?_
    exact Ev.ret rfl rfl rfl
theorem i_no2 {x : Int32} (h : 0 ≤ x) (h' : x ≤ -2) : False := absurd (Int32.le_trans h h') (by decide)
set_option maxRecDepth 10000 in
set_option maxHeartbeats 400000 in
theorem m_price (x y : Int32) (m : Nat) (g : Nat → ab_E) : ∃ hp, Z_X11_price [.ref 69, .int x, .int y] (MG m g) = some (some (.int (-1)), hp) := by
  refine mX (Nat.le_of_ble_eq_true rfl) ?_
  repeat refine Ev.step rfl rfl ?_
  refine Ev.call rfl rfl (m_isIn0 (x := x) (a := 0) (b := -2) i_no2) ?_
  repeat refine Ev.step rfl rfl ?_
  exact Ev.ret rfl rfl rfl
