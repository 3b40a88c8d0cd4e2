/-! ===== operations that write into the class's own heap ===== -/
theorem cX3 {L : List (Nat × ab_A)} {nL : Nat} {as : List Value} {v : Value} (hl : (ab_ent as).length ≤ nL) (h : Ev (ab_T L) 0 (ab_en nL as, [], (0, 0), H0) (fun o => o.1 = some v ∧ o.2.1 = 88 ∧ ∀ k, o.2.2 (k + 69) = FL 88 (k + 69))) : ∃ m g, ab_X (ab_T L) nL as H0 = some (some v, MG m g) := by
  obtain ⟨⟨o1, o2, o3⟩, h1, h2, h3, h4⟩ := ab_X_ev hl h
  cases h2
  cases h3
  refine ⟨0, o3, h1.trans (congrArg some (Prod.ext rfl (Prod.ext rfl (funext fun k => ?_))))⟩
  show o3 k = cond (decide (69 ≤ k) && decide (k < 88)) (FL 88 k) (o3 k)
  by_cases hk : 69 ≤ k
  · obtain ⟨q, rfl⟩ : ∃ q, k = q + 69 := ⟨k - 69, by omega⟩
    cases (decide (69 ≤ q + 69) && decide (q + 69 < 88))
    · rfl
    · exact h4 q
  · rw [decide_eq_false hk]
    rfl
set_option maxRecDepth 10000 in
set_option maxHeartbeats 400000 in
theorem c_going : ∃ m g, Z_X10_going [.ref 0] H0 = some (some (.int 0), MG m g) := by
  refine cX3 (Nat.le_of_ble_eq_true rfl) ?_
  repeat refine Ev.step rfl rfl ?_
  exact Ev.ret rfl rfl ⟨rfl, rfl, fun k => rfl⟩
