/-! ===== operations on a shore; the three acts ===== -/
theorem i_01 {x : Int32} (h0 : 0 ≤ x) (h1 : x ≤ 1) : x = 0 ∨ x = 1 := by
  have a : (0 : Int) ≤ x.toInt := Int32.le_iff_toInt_le.mp h0
  have b : x.toInt ≤ (1 : Int) := Int32.le_iff_toInt_le.mp h1
  rcases (by omega : x.toInt = 0 ∨ x.toInt = 1) with h | h
  · exact .inl (Int32.toInt_inj.mp h)
  · exact .inr (Int32.toInt_inj.mp h)
theorem c_isShore0 {x : Int32} {hp : ab_H} (h0 : x ≠ 0) (h1 : x ≠ 1) : Z_X10_isShore [.int x] hp = some (some (.int 0), hp) := by
  refine Rn.of rfl ?_
  refine Rn.step rfl rfl ?_
  refine Rn.step rfl rfl ?_
  refine Rn.br (fun hb => absurd (of_decide_eq_true hb) h0) (fun hb => ?_)
  refine Rn.step rfl rfl ?_
  refine Rn.step rfl rfl ?_
  refine Rn.step rfl rfl ?_
  refine Rn.br (fun hc => ?_) (fun hc => absurd (show x = 1 by simpa using hc) h1)
  refine Rn.step rfl rfl ?_
  exact Rn.ret rfl rfl
theorem m_isShore0 {x : Int32} {hp : ab_H} (h0 : x ≠ 0) (h1 : x ≠ 1) : Z_X11_isShore [.ref 69, .int x] hp = some (some (.int 0), hp) := by
  refine Rn.of rfl ?_
  refine Rn.step rfl rfl ?_
  refine Rn.step rfl rfl ?_
  refine Rn.step rfl rfl ?_
  refine Rn.call rfl rfl (m_isIn0 (x := x) (a := 0) (b := 1) (fun a b => (i_01 a b).elim h0 h1)) ?_
  exact Rn.ret rfl rfl
set_option maxRecDepth 10000 in
set_option maxHeartbeats 400000 in
theorem c_lacks_0 : ∃ m g, Z_X10_lacks [.ref 0, .int 0] H0 = some (some (.int 0), MG m g) := by
  refine cX (Nat.le_of_ble_eq_true rfl) ?_
  repeat refine Ev.step rfl rfl ?_
  exact Ev.ret rfl rfl rfl
set_option maxRecDepth 10000 in
set_option maxHeartbeats 400000 in
theorem m_lacks_0 (m : Nat) (g : Nat → ab_E) : ∃ hp, Z_X11_lacks [.ref 69, .int 0] (MG m g) = some (some (.int 0), hp) := by
  refine mX (Nat.le_of_ble_eq_true rfl) ?_
  repeat refine Ev.step rfl rfl ?_
  exact Ev.ret rfl rfl rfl
set_option maxRecDepth 10000 in
set_option maxHeartbeats 400000 in
theorem c_lacks_1 : ∃ m g, Z_X10_lacks [.ref 0, .int 1] H0 = some (some (.int 0), MG m g) := by
  refine cX (Nat.le_of_ble_eq_true rfl) ?_
  repeat refine Ev.step rfl rfl ?_
  exact Ev.ret rfl rfl rfl
set_option maxRecDepth 10000 in
set_option maxHeartbeats 400000 in
theorem m_lacks_1 (m : Nat) (g : Nat → ab_E) : ∃ hp, Z_X11_lacks [.ref 69, .int 1] (MG m g) = some (some (.int 0), hp) := by
  refine mX (Nat.le_of_ble_eq_true rfl) ?_
  repeat refine Ev.step rfl rfl ?_
  exact Ev.ret rfl rfl rfl
set_option maxRecDepth 10000 in
set_option maxHeartbeats 400000 in
theorem c_lacks_n {x : Int32} (h0 : x ≠ 0) (h1 : x ≠ 1) : ∃ m g, Z_X10_lacks [.ref 0, .int x] H0 = some (some (.int (-1)), MG m g) := by
  refine cX (Nat.le_of_ble_eq_true rfl) ?_
  repeat refine Ev.step rfl rfl ?_
  refine Ev.call rfl rfl (c_isShore0 h0 h1) ?_
  repeat refine Ev.step rfl rfl ?_
  exact Ev.ret rfl rfl rfl
set_option maxRecDepth 10000 in
set_option maxHeartbeats 400000 in
theorem m_lacks_n {x : Int32} (h0 : x ≠ 0) (h1 : x ≠ 1) (m : Nat) (g : Nat → ab_E) : ∃ hp, Z_X11_lacks [.ref 69, .int x] (MG m g) = some (some (.int (-1)), hp) := by
  refine mX (Nat.le_of_ble_eq_true rfl) ?_
  repeat refine Ev.step rfl rfl ?_
  refine Ev.callV rfl rfl rfl (m_isShore0 h0 h1) ?_
  repeat refine Ev.step rfl rfl ?_
  exact Ev.ret rfl rfl rfl
set_option maxRecDepth 10000 in
set_option maxHeartbeats 400000 in
theorem c_falses_0 : ∃ m g, Z_X10_falses [.ref 0, .int 0] H0 = some (some (.int 0), MG m g) := by
  refine cX (Nat.le_of_ble_eq_true rfl) ?_
  repeat refine Ev.step rfl rfl ?_
  exact Ev.ret rfl rfl rfl
set_option maxRecDepth 10000 in
set_option maxHeartbeats 400000 in
theorem m_falses_0 (m : Nat) (g : Nat → ab_E) : ∃ hp, Z_X11_falses [.ref 69, .int 0] (MG m g) = some (some (.int 0), hp) := by
  refine mX (Nat.le_of_ble_eq_true rfl) ?_
  repeat refine Ev.step rfl rfl ?_
  exact Ev.ret rfl rfl rfl
set_option maxRecDepth 10000 in
set_option maxHeartbeats 400000 in
theorem c_falses_1 : ∃ m g, Z_X10_falses [.ref 0, .int 1] H0 = some (some (.int 0), MG m g) := by
  refine cX (Nat.le_of_ble_eq_true rfl) ?_
  repeat refine Ev.step rfl rfl ?_
  exact Ev.ret rfl rfl rfl
set_option maxRecDepth 10000 in
set_option maxHeartbeats 400000 in
theorem m_falses_1 (m : Nat) (g : Nat → ab_E) : ∃ hp, Z_X11_falses [.ref 69, .int 1] (MG m g) = some (some (.int 0), hp) := by
  refine mX (Nat.le_of_ble_eq_true rfl) ?_
  repeat refine Ev.step rfl rfl ?_
  exact Ev.ret rfl rfl rfl
set_option maxRecDepth 10000 in
set_option maxHeartbeats 400000 in
theorem c_falses_n {x : Int32} (h0 : x ≠ 0) (h1 : x ≠ 1) : ∃ m g, Z_X10_falses [.ref 0, .int x] H0 = some (some (.int (-1)), MG m g) := by
  refine cX (Nat.le_of_ble_eq_true rfl) ?_
  repeat refine Ev.step rfl rfl ?_
  refine Ev.call rfl rfl (c_isShore0 h0 h1) ?_
  repeat refine Ev.step rfl rfl ?_
  exact Ev.ret rfl rfl rfl
set_option maxRecDepth 10000 in
set_option maxHeartbeats 400000 in
theorem m_falses_n {x : Int32} (h0 : x ≠ 0) (h1 : x ≠ 1) (m : Nat) (g : Nat → ab_E) : ∃ hp, Z_X11_falses [.ref 69, .int x] (MG m g) = some (some (.int (-1)), hp) := by
  refine mX (Nat.le_of_ble_eq_true rfl) ?_
  repeat refine Ev.step rfl rfl ?_
  refine Ev.callV rfl rfl rfl (m_isShore0 h0 h1) ?_
  repeat refine Ev.step rfl rfl ?_
  exact Ev.ret rfl rfl rfl
set_option maxRecDepth 10000 in
set_option maxHeartbeats 400000 in
theorem c_hoarded_0 : ∃ m g, Z_X10_hoarded [.ref 0, .int 0] H0 = some (some (.int (-1)), MG m g) := by
  refine cX (Nat.le_of_ble_eq_true rfl) ?_
  repeat refine Ev.step rfl rfl ?_
  exact Ev.ret rfl rfl rfl
set_option maxRecDepth 10000 in
set_option maxHeartbeats 400000 in
theorem m_hoarded_0 (m : Nat) (g : Nat → ab_E) : ∃ hp, Z_X11_hoarded [.ref 69, .int 0] (MG m g) = some (some (.int (-1)), hp) := by
  refine mX (Nat.le_of_ble_eq_true rfl) ?_
  repeat refine Ev.step rfl rfl ?_
  exact Ev.ret rfl rfl rfl
set_option maxRecDepth 10000 in
set_option maxHeartbeats 400000 in
theorem c_hoarded_1 : ∃ m g, Z_X10_hoarded [.ref 0, .int 1] H0 = some (some (.int (-1)), MG m g) := by
  refine cX (Nat.le_of_ble_eq_true rfl) ?_
  repeat refine Ev.step rfl rfl ?_
  exact Ev.ret rfl rfl rfl
set_option maxRecDepth 10000 in
set_option maxHeartbeats 400000 in
theorem m_hoarded_1 (m : Nat) (g : Nat → ab_E) : ∃ hp, Z_X11_hoarded [.ref 69, .int 1] (MG m g) = some (some (.int (-1)), hp) := by
  refine mX (Nat.le_of_ble_eq_true rfl) ?_
  repeat refine Ev.step rfl rfl ?_
  exact Ev.ret rfl rfl rfl
set_option maxRecDepth 10000 in
set_option maxHeartbeats 400000 in
theorem c_hoarded_n {x : Int32} (h0 : x ≠ 0) (h1 : x ≠ 1) : ∃ m g, Z_X10_hoarded [.ref 0, .int x] H0 = some (some (.int (-1)), MG m g) := by
  refine cX (Nat.le_of_ble_eq_true rfl) ?_
  repeat refine Ev.step rfl rfl ?_
  refine Ev.call rfl rfl (c_isShore0 h0 h1) ?_
  repeat refine Ev.step rfl rfl ?_
  exact Ev.ret rfl rfl rfl
set_option maxRecDepth 10000 in
set_option maxHeartbeats 400000 in
theorem m_hoarded_n {x : Int32} (h0 : x ≠ 0) (h1 : x ≠ 1) (m : Nat) (g : Nat → ab_E) : ∃ hp, Z_X11_hoarded [.ref 69, .int x] (MG m g) = some (some (.int (-1)), hp) := by
  refine mX (Nat.le_of_ble_eq_true rfl) ?_
  repeat refine Ev.step rfl rfl ?_
  refine Ev.callV rfl rfl rfl (m_isShore0 h0 h1) ?_
  repeat refine Ev.step rfl rfl ?_
  exact Ev.ret rfl rfl rfl
set_option maxRecDepth 10000 in
set_option maxHeartbeats 400000 in
theorem c_act (k x y z : Int32) : Z_X10_act [.ref 0, .int k, .int x, .int y, .int z] H0 = some (some (.int (-1)), H0) := by
  refine Rn.of rfl ?_
  refine Rn.step rfl rfl ?_
  refine Rn.step rfl rfl ?_
  refine Rn.step rfl rfl ?_
  refine Rn.callV rfl rfl rfl (c_isSlot x y) ?_
  refine Rn.step rfl rfl ?_
  refine Rn.step rfl rfl ?_
  exact Rn.ret rfl rfl
set_option maxRecDepth 10000 in
set_option maxHeartbeats 400000 in
theorem c_hoard (x y z : Int32) : ∃ m g, Z_X10_hoard [.ref 0, .int x, .int y, .int z] H0 = some (some (.int (-1)), MG m g) := by
  refine cX (Nat.le_of_ble_eq_true rfl) ?_
  refine Ev.step rfl rfl ?_
  refine Ev.step rfl rfl ?_
  refine Ev.step rfl rfl ?_
  refine Ev.step rfl rfl ?_
  refine Ev.step rfl rfl ?_
  refine Ev.callV rfl rfl rfl (c_act _ x y z) ?_
  exact Ev.ret rfl rfl rfl
set_option maxRecDepth 10000 in
set_option maxHeartbeats 400000 in
theorem c_bare (x y z : Int32) : ∃ m g, Z_X10_bare [.ref 0, .int x, .int y, .int z] H0 = some (some (.int (-1)), MG m g) := by
  refine cX (Nat.le_of_ble_eq_true rfl) ?_
  refine Ev.step rfl rfl ?_
  refine Ev.step rfl rfl ?_
  refine Ev.step rfl rfl ?_
  refine Ev.step rfl rfl ?_
  refine Ev.step rfl rfl ?_
  refine Ev.callV rfl rfl rfl (c_act _ x y z) ?_
  exact Ev.ret rfl rfl rfl
set_option maxRecDepth 10000 in
set_option maxHeartbeats 400000 in
theorem c_waste (x y z : Int32) : ∃ m g, Z_X10_waste [.ref 0, .int x, .int y, .int z] H0 = some (some (.int (-1)), MG m g) := by
  refine cX (Nat.le_of_ble_eq_true rfl) ?_
  refine Ev.step rfl rfl ?_
  refine Ev.step rfl rfl ?_
  refine Ev.step rfl rfl ?_
  refine Ev.step rfl rfl ?_
  refine Ev.step rfl rfl ?_
  refine Ev.callV rfl rfl rfl (c_act _ x y z) ?_
  exact Ev.ret rfl rfl rfl
