/-! ===== count's other numbers ===== -/
set_option maxRecDepth 10000 in
set_option maxHeartbeats 800000 in
theorem m_count_n {x : Int32} (h : ¬ (0 ≤ x ∧ x < 5)) (m : Nat) (g : Nat → ab_E) : ∃ hp, Z_X11_count [.ref 69, .int x] (MG m g) = some (some (.int (-1)), hp) := by
  refine mX (Nat.le_of_ble_eq_true rfl) ?_
  refine Ev.step rfl rfl ?_
  refine Ev.step rfl rfl ?_
  refine Ev.step rfl rfl ?_
  refine Ev.step rfl rfl ?_
  refine Ev.step rfl rfl ?_
  refine Ev.step rfl rfl ?_
  refine Ev.br (fun hb => ?_) (fun hb => ?_)
  · refine Ev.step rfl rfl ?_
    refine Ev.step rfl rfl ?_
    refine Ev.step rfl rfl ?_
    refine Ev.call rfl rfl (m_isIn0 (x := x) (a := 0) (b := 3) (fun p q => h ⟨p, Int32.lt_of_le_of_lt q (by decide)⟩)) ?_
    repeat refine Ev.step rfl rfl ?_
    exact Ev.ret rfl rfl rfl
  · have e : x = 4 := by simpa using hb
    subst e
    exact absurd (⟨by decide, by decide⟩ : (0 : Int32) ≤ 4 ∧ (4 : Int32) < 5) h
