/-! ===== operations of no argument ===== -/
theorem cX2 {L : List (Nat × ab_A)} {nL : Nat} {as : List Value} {v : Value} (hl : (ab_ent as).length ≤ nL) (h : Ev (ab_T L) 0 (ab_en nL as, [], (0, 0), H0) (fun o => o.1 = some v ∧ ∃ m, o.2.1 = m + 88 ∧ ∀ k, o.2.2 (k + 69) = cond (decide (k < 19)) (FL 88 (k + 69)) (o.2.2 (k + 69)))) : ∃ m g, ab_X (ab_T L) nL as H0 = some (some v, MG m g) := by
  obtain ⟨⟨o1, o2, o3⟩, h1, h2, m, h3, h4⟩ := ab_X_ev hl h
  cases h2
  cases h3
  refine ⟨m, o3, h1.trans (congrArg some (Prod.ext rfl (Prod.ext rfl (funext fun k => ?_))))⟩
  show o3 k = cond (decide (69 ≤ k) && decide (k < 88)) (FL 88 k) (o3 k)
  by_cases hk : 69 ≤ k
  · obtain ⟨q, rfl⟩ : ∃ q, k = q + 69 := ⟨k - 69, by omega⟩
    rw [decide_eq_true hk, Bool.true_and]
    by_cases hq : q < 19
    · have := h4 q
      rw [decide_eq_true hq] at this
      rw [decide_eq_true (show q + 69 < 88 by omega)]
      exact this
    · rw [decide_eq_false (show ¬ q + 69 < 88 by omega)]
      rfl
  · rw [decide_eq_false hk]
    rfl
set_option maxRecDepth 10000 in
set_option maxHeartbeats 400000 in
theorem c_undo : ∃ m g, Z_X10_undo [.ref 0] H0 = some (some (.int (-1)), MG m g) := by
  refine cX (Nat.le_of_ble_eq_true rfl) ?_
  repeat refine Ev.step rfl rfl ?_
  exact Ev.ret rfl rfl rfl
set_option maxRecDepth 10000 in
set_option maxHeartbeats 400000 in
theorem m_undo (m : Nat) (g : Nat → ab_E) : ∃ hp, Z_X11_undo [.ref 69] (MG m g) = some (some (.int (-1)), hp) := by
  refine mX (Nat.le_of_ble_eq_true rfl) ?_
  repeat refine Ev.step rfl rfl ?_
  exact Ev.ret rfl rfl rfl
set_option maxRecDepth 10000 in
set_option maxHeartbeats 400000 in
theorem m_which (m : Nat) (g : Nat → ab_E) : ∃ hp, Z_X11_which [.ref 69] (MG m g) = some (some (.int (-1)), hp) := by
  refine mX (Nat.le_of_ble_eq_true rfl) ?_
  repeat refine Ev.step rfl rfl ?_
  exact Ev.ret rfl rfl rfl
set_option maxRecDepth 10000 in
set_option maxHeartbeats 400000 in
theorem c_dearest : ∃ m g, Z_X10_dearest [.ref 0] H0 = some (some (.int (-1)), MG m g) := by
  refine cX (Nat.le_of_ble_eq_true rfl) ?_
  repeat refine Ev.step rfl rfl ?_
  exact Ev.ret rfl rfl rfl
set_option maxRecDepth 10000 in
set_option maxHeartbeats 400000 in
theorem m_dearest (m : Nat) (g : Nat → ab_E) : ∃ hp, Z_X11_dearest [.ref 69] (MG m g) = some (some (.int (-1)), hp) := by
  refine mX (Nat.le_of_ble_eq_true rfl) ?_
  repeat refine Ev.step rfl rfl ?_
  exact Ev.ret rfl rfl rfl
set_option maxRecDepth 10000 in
set_option maxHeartbeats 400000 in
theorem c_rats : ∃ m g, Z_X10_rats [.ref 0] H0 = some (some (.int 0), MG m g) := by
  refine cX (Nat.le_of_ble_eq_true rfl) ?_
  repeat refine Ev.step rfl rfl ?_
  exact Ev.ret rfl rfl rfl
set_option maxRecDepth 10000 in
set_option maxHeartbeats 400000 in
theorem m_rats (m : Nat) (g : Nat → ab_E) : ∃ hp, Z_X11_rats [.ref 69] (MG m g) = some (some (.int 0), hp) := by
  refine mX (Nat.le_of_ble_eq_true rfl) ?_
  repeat refine Ev.step rfl rfl ?_
  exact Ev.ret rfl rfl rfl
set_option maxRecDepth 10000 in
set_option maxHeartbeats 400000 in
theorem m_going (m : Nat) (g : Nat → ab_E) : ∃ hp, Z_X11_going [.ref 69] (MG m g) = some (some (.int 0), hp) := by
  refine mX (Nat.le_of_ble_eq_true rfl) ?_
  repeat refine Ev.step rfl rfl ?_
  exact Ev.ret rfl rfl rfl
set_option maxRecDepth 10000 in
set_option maxHeartbeats 400000 in
theorem m_sentence (m : Nat) (g : Nat → ab_E) : ∃ hp, Z_X11_sentence [.ref 69] (MG m g) = some (some (.int (-1)), hp) := by
  refine mX (Nat.le_of_ble_eq_true rfl) ?_
  repeat refine Ev.step rfl rfl ?_
  exact Ev.ret rfl rfl rfl
