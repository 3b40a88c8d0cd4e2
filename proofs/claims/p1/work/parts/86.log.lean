/-! ===== log ===== -/
set_option maxRecDepth 10000 in
set_option maxHeartbeats 4000000 in
theorem c_log_n {x : Int32} (h0 : x ≠ 0) (h1 : x ≠ 1) : ∃ m g, Z_X10_log [.ref 0, .int x] H0 = some (some (.int (-1000)), MG m g) := by
  refine cX (Nat.le_of_ble_eq_true rfl) ?_
  refine Ev.step rfl rfl ?_
  refine Ev.step rfl rfl ?_
  refine Ev.br (fun hb => absurd (of_decide_eq_true hb) h0) (fun _ => ?_)
  refine Ev.step rfl rfl ?_
  refine Ev.step rfl rfl ?_
  refine Ev.step rfl rfl ?_
  refine Ev.br (fun hb => absurd (of_decide_eq_true hb) h1) (fun _ => ?_)
  refine Ev.step rfl rfl ?_
  exact Ev.ret rfl rfl rfl
set_option maxRecDepth 10000 in
set_option maxHeartbeats 4000000 in
theorem m_log_n {x : Int32} (h0 : x ≠ 0) (h1 : x ≠ 1) (m : Nat) (g : Nat → ab_E) : ∃ hp, Z_X11_log [.ref 69, .int x] (MG m g) = some (some (.int (-1000)), hp) := by
  refine mX (Nat.le_of_ble_eq_true rfl) ?_
  repeat refine Ev.step rfl rfl ?_
  refine Ev.call rfl rfl (m_isIn0 (x := x) (a := 0) (b := 1) (fun a b => (i_01 a b).elim h0 h1)) ?_
  repeat refine Ev.step rfl rfl ?_
  exact Ev.ret rfl rfl rfl
set_option maxRecDepth 10000 in
set_option maxHeartbeats 4000000 in
theorem c_log_0 : ∃ m g, Z_X10_log [.ref 0, .int 0] H0 = some (some (.int (-1)), MG m g) := by
  refine cX3 (Nat.le_of_ble_eq_true rfl) ?_
  repeat refine Ev.step rfl rfl ?_
  refine Ev.inl rfl rfl rfl (Nat.le_of_ble_eq_true rfl) ?_
  repeat refine Ev.step rfl rfl ?_
  refine Ev.ret rfl rfl ?_
  repeat refine Ev.step rfl rfl ?_
  refine Ev.inl rfl rfl rfl (Nat.le_of_ble_eq_true rfl) ?_
  repeat refine Ev.step rfl rfl ?_
  refine Ev.ret rfl rfl ?_
  repeat refine Ev.step rfl rfl ?_
  refine Ev.inl rfl rfl rfl (Nat.le_of_ble_eq_true rfl) ?_
  repeat refine Ev.step rfl rfl ?_
  refine Ev.ret rfl rfl ?_
  repeat refine Ev.step rfl rfl ?_
  exact Ev.ret rfl rfl ⟨rfl, rfl, fun k => rfl⟩
set_option maxRecDepth 10000 in
set_option maxHeartbeats 4000000 in
theorem m_log_0 (m : Nat) (g : Nat → ab_E) : ∃ hp, Z_X11_log [.ref 69, .int 0] (MG m g) = some (some (.int (-1)), hp) := by
  refine mX (Nat.le_of_ble_eq_true rfl) ?_
  repeat refine Ev.step rfl rfl ?_
  refine Ev.callVX rfl rfl rfl (m_tries (Nat.le_add_left 88 m) rfl rfl rfl rfl rfl) ?_
  rintro _ ⟨f', rfl⟩
  repeat refine Ev.step rfl rfl ?_
  refine Ev.callVX rfl rfl rfl (m_back (f := f') (Nat.le_add_left 88 m) rfl rfl rfl rfl rfl) (fun hp'' _ => ?_)
  refine Ev.step rfl rfl ?_
  exact Ev.ret rfl rfl rfl
set_option maxRecDepth 10000 in
set_option maxHeartbeats 4000000 in
theorem c_log_1 : ∃ m g, Z_X10_log [.ref 0, .int 1] H0 = some (some (.int (-1)), MG m g) := by
  refine cX3 (Nat.le_of_ble_eq_true rfl) ?_
  repeat refine Ev.step rfl rfl ?_
  refine Ev.inl rfl rfl rfl (Nat.le_of_ble_eq_true rfl) ?_
  repeat refine Ev.step rfl rfl ?_
  refine Ev.ret rfl rfl ?_
  repeat refine Ev.step rfl rfl ?_
  refine Ev.inl rfl rfl rfl (Nat.le_of_ble_eq_true rfl) ?_
  repeat refine Ev.step rfl rfl ?_
  refine Ev.ret rfl rfl ?_
  repeat refine Ev.step rfl rfl ?_
  refine Ev.inl rfl rfl rfl (Nat.le_of_ble_eq_true rfl) ?_
  repeat refine Ev.step rfl rfl ?_
  refine Ev.ret rfl rfl ?_
  repeat refine Ev.step rfl rfl ?_
  exact Ev.ret rfl rfl ⟨rfl, rfl, fun k => rfl⟩
set_option maxRecDepth 10000 in
set_option maxHeartbeats 4000000 in
theorem m_log_1 (m : Nat) (g : Nat → ab_E) : ∃ hp, Z_X11_log [.ref 69, .int 1] (MG m g) = some (some (.int (-1)), hp) := by
  refine mX (Nat.le_of_ble_eq_true rfl) ?_
  repeat refine Ev.step rfl rfl ?_
  refine Ev.callVX rfl rfl rfl (m_tries (Nat.le_add_left 88 m) rfl rfl rfl rfl rfl) ?_
  rintro _ ⟨f', rfl⟩
  repeat refine Ev.step rfl rfl ?_
  exact Ev.ret rfl rfl rfl
