/-! ===== man ===== -/
set_option maxRecDepth 10000 in
set_option maxHeartbeats 2000000 in
theorem m_isManG (x : Int32) (m : Nat) (g : Nat → ab_E) : Z_X11_isMan [.ref 69, .int x] (MG m g) = some (some (.int 0), MG m g) := by
  refine Rn.of rfl ?_
  refine Rn.step rfl rfl ?_
  refine Rn.step rfl rfl ?_
  refine Rn.step rfl rfl ?_
  refine Rn.step rfl rfl ?_
  refine Rn.step rfl rfl ?_
  refine Rn.step rfl rfl ?_
  refine Rn.step rfl rfl ?_
  refine Rn.step rfl rfl ?_
  refine Rn.call rfl rfl (m_isIn0 (x := x) (a := 0) (b := -1) i_no) ?_
  exact Rn.ret rfl rfl
set_option maxRecDepth 10000 in
set_option maxHeartbeats 2000000 in
theorem c_man (x y : Int32) : Z_X10_man [.ref 0, .int x, .int y] H0 = some (some (.retAddr 99), H0) := by
  refine ab_X_eq (Nat.le_of_ble_eq_true rfl) ?_
  refine Ev.step rfl rfl ?_
  refine Ev.step rfl rfl ?_
  refine Ev.callV rfl rfl rfl (c_isMan x) ?_
  refine Ev.step rfl rfl ?_
  exact Ev.ret rfl rfl rfl
set_option maxRecDepth 10000 in
set_option maxHeartbeats 2000000 in
theorem l_man (x y : Int32) : Z_L_man [.ref 0, .int x, .int y, .ref 87] H0 = some (some (.int 1), ab_push H0 (.inr (12, []))) := by
  refine ab_X_eq (Nat.le_of_ble_eq_true rfl) ?_
  refine Ev.step rfl rfl ?_
  refine Ev.step rfl rfl ?_
  refine Ev.step rfl rfl ?_
  refine Ev.step rfl rfl ?_
  refine Ev.step rfl rfl ?_
  refine (show Ev _ 5 ([some (.ref 0), some (.int x), some (.int y), some (.ref 87), none], [.int y, .int x, .ref 0, .int 0, .ref 87], (0, 0), H0) _ from ?_)
  refine Ev.step (j := 15) (s' := ([some (.ref 0), some (.int x), some (.int y), some (.ref 87), none], [], (1, 6), ab_push H0 (.inr (12, [])))) rfl ?_ ?_
  · have e : Z_X10_man ([.int y, .int x, .ref 0, .int 0, .ref 87].take 3).reverse H0 = some (some (.retAddr 99), H0) := c_man x y
    simp only [ab_callX]
    rw [e]
    rfl
  · refine Ev.step rfl rfl ?_
    exact Ev.ret rfl rfl rfl
theorem push_MG (x : ab_E) : ab_push H0 x = MG 1 (ab_push H0 x).2 := by
  refine Prod.ext rfl (funext fun k => ?_)
  show (if k = 88 then x else FL 88 k) = cond (decide (69 ≤ k) && decide (k < 88)) (FL 88 k) (if k = 88 then x else FL 88 k)
  by_cases h : k = 88
  · subst h
    rfl
  · rw [if_neg h]
    cases (decide (69 ≤ k) && decide (k < 88)) <;> rfl
set_option maxRecDepth 10000 in
set_option maxHeartbeats 2000000 in
theorem m_man (x y : Int32) (m : Nat) (g : Nat → ab_E) : ∃ hp, Z_X11_man [.ref 69, .int x, .int y] (MG m g) = some (some (.int 0), hp) ∧ ab_rcv 11 [.ref 69] hp = true ∧ Z_X11_thrown [.ref 69] hp = some (some (.int 1), hp) := by
  refine xX (Nat.le_of_ble_eq_true rfl) ?_
  refine Ev.step rfl rfl ?_
  refine Ev.step rfl rfl ?_
  refine Ev.step rfl rfl ?_
  refine (show Ev _ 3 ([some (.ref 69), some (.int x), some (.int y)], [.int x, .ref 69, .ref 69], (0, 0), MG m g) _ from ?_)
  refine Ev.callV rfl rfl rfl (m_isManG x m g) ?_
  refine Ev.step rfl rfl ?_
  refine Ev.step rfl rfl ?_
  refine Ev.step rfl rfl ?_
  refine Ev.step rfl rfl ?_
  refine Ev.step rfl rfl ?_
  refine Ev.step rfl rfl ?_
  refine Ev.ret rfl rfl ⟨rfl, rfl, ?_⟩
  refine ab_X_eq (Nat.le_of_ble_eq_true rfl) ?_
  refine Ev.step rfl rfl ?_
  refine Ev.step rfl rfl ?_
  exact Ev.ret rfl rfl rfl
def LO5 (a b : Option Value) : List (Option Value) := [some (.retAddr 0), some (.ref 0), some (.ref 69), some (.ref 87), some (.int 0), a, b]
set_option maxRecDepth 100000 in
theorem law_next5 (xs : Nat → Int32) {u : Nat × Nat} {hp : ab_H} {a b : Option Value} (h1 : u.1 ≤ 600002) (h2 : u.2 ≤ 7302231) : Ev (LT xs 6) 1468 (LO5 a b, [], u, hp) (fun _ => True) := by
  unfold LT LO5
  refine Ev.step rfl rfl ?_
  refine Ev.step rfl rfl ?_
  refine Ev.step rfl rfl ?_
  refine Ev.step rfl rfl ?_
  refine Ev.step rfl rfl ?_
  refine Ev.step rfl rfl ?_
  refine Ev.step rfl rfl ?_
  refine Ev.step rfl rfl ?_
  exact law_out xs 6 h1 h2
set_option maxRecDepth 100000 in
set_option maxHeartbeats 2000000 in
theorem op_man (xs : Nat → Int32) : Ev (LT xs 6) 430 (LO 0, [], (88, 8872), H0) (fun _ => True) := by
  refine Ev.step rfl rfl ?_
  refine Ev.step rfl rfl ?_
  refine Ev.step rfl rfl ?_
  refine Ev.step rfl rfl ?_
  refine Ev.step rfl rfl ?_
  refine Ev.step rfl rfl ?_
  refine Ev.step rfl rfl ?_
  refine Ev.step rfl rfl ?_
  refine Ev.step rfl rfl ?_
  refine Ev.step rfl rfl ?_
  refine Ev.step rfl rfl ?_
  refine Ev.step rfl rfl ?_
  refine (show Ev (LT xs 6) 444 (LO 0, [.ref 87, .int (xs 2), .int (xs 1), .ref 0], (88, 8872), H0) (fun _ => True) from ?_)
  refine Ev.call rfl rfl (l_man (xs 1) (xs 2)) ?_
  refine Ev.step rfl rfl ?_
  refine Ev.step rfl rfl ?_
  refine Ev.step rfl rfl ?_
  refine Ev.step rfl rfl ?_
  refine Ev.step rfl rfl ?_
  refine Ev.step rfl rfl ?_
  refine Ev.step rfl rfl ?_
  refine Ev.step rfl rfl ?_
  refine Ev.step rfl rfl ?_
  refine Ev.step rfl rfl ?_
  refine Ev.step rfl rfl ?_
  refine Ev.step rfl rfl ?_
  refine (show Ev (LT xs 6) 462 (LO5 (some (.int 1)) none, [.int (xs 2), .int (xs 1), .ref 69], (89, 8878), ab_push H0 (.inr (12, []))) (fun _ => True) from ?_)
  rw [push_MG]
  obtain ⟨hp, hm, hr, ht⟩ := m_man (xs 1) (xs 2) 1 (ab_push H0 (.inr (12, []))).2
  refine Ev.callV rfl rfl rfl hm ?_
  refine Ev.step rfl rfl ?_
  refine Ev.step rfl rfl ?_
  refine (show Ev (LT xs 6) 468 (LO5 (some (.int 1)) (some (.int 0)), [.ref 69], (89, 8878), hp) (fun _ => True) from ?_)
  refine Ev.callV rfl hr rfl ht ?_
  refine Ev.step rfl rfl ?_
  refine Ev.step rfl rfl ?_
  refine Ev.step rfl rfl ?_
  refine Ev.step rfl rfl ?_
  refine Ev.step rfl rfl ?_
  exact law_next5 xs (by decide) (by decide)
