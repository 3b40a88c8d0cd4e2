/-! ===== the law's run: up to its loop ===== -/
noncomputable def LT (xs : Nat → Int32) (n : Nat) : Nat → Option ab_A := ab_T (LZ_law xs n)
def H0 : ab_H := (88, FL 88)
def LO (i : Int32) : List (Option Value) := [some (.retAddr 0), some (.ref 0), some (.ref 69), some (.ref 87), some (.int i), none, none]
set_option maxRecDepth 100000 in
theorem fr_out : ab_push (87, FL 87) (.inl (2, 1, .inr (.inl (fun _ => 0)))) = H0 := by
  refine Prod.ext rfl (funext fun k => ?_)
  match k with
  | 0 => rfl
  | 1 => rfl
  | 2 => rfl
  | 3 => rfl
  | 4 => rfl
  | 5 => rfl
  | 6 => rfl
  | 7 => rfl
  | 8 => rfl
  | 9 => rfl
  | 10 => rfl
  | 11 => rfl
  | 12 => rfl
  | 13 => rfl
  | 14 => rfl
  | 15 => rfl
  | 16 => rfl
  | 17 => rfl
  | 18 => rfl
  | 19 => rfl
  | 20 => rfl
  | 21 => rfl
  | 22 => rfl
  | 23 => rfl
  | 24 => rfl
  | 25 => rfl
  | 26 => rfl
  | 27 => rfl
  | 28 => rfl
  | 29 => rfl
  | 30 => rfl
  | 31 => rfl
  | 32 => rfl
  | 33 => rfl
  | 34 => rfl
  | 35 => rfl
  | 36 => rfl
  | 37 => rfl
  | 38 => rfl
  | 39 => rfl
  | 40 => rfl
  | 41 => rfl
  | 42 => rfl
  | 43 => rfl
  | 44 => rfl
  | 45 => rfl
  | 46 => rfl
  | 47 => rfl
  | 48 => rfl
  | 49 => rfl
  | 50 => rfl
  | 51 => rfl
  | 52 => rfl
  | 53 => rfl
  | 54 => rfl
  | 55 => rfl
  | 56 => rfl
  | 57 => rfl
  | 58 => rfl
  | 59 => rfl
  | 60 => rfl
  | 61 => rfl
  | 62 => rfl
  | 63 => rfl
  | 64 => rfl
  | 65 => rfl
  | 66 => rfl
  | 67 => rfl
  | 68 => rfl
  | 69 => rfl
  | 70 => rfl
  | 71 => rfl
  | 72 => rfl
  | 73 => rfl
  | 74 => rfl
  | 75 => rfl
  | 76 => rfl
  | 77 => rfl
  | 78 => rfl
  | 79 => rfl
  | 80 => rfl
  | 81 => rfl
  | 82 => rfl
  | 83 => rfl
  | 84 => rfl
  | 85 => rfl
  | 86 => rfl
  | 87 => rfl
  | k + 88 => rfl
set_option maxRecDepth 100000 in
set_option maxHeartbeats 1000000 in
theorem law_pre (xs : Nat → Int32) (n : Nat) {Q : ab_O → Prop} (h : Ev (LT xs n) 23 (LO 0, [], (88, 8872), H0) Q) : Ev (LT xs n) 0 (ab_en 7 [.retAddr 0], [], (0, 0), (0, ab_h0)) Q := by
  unfold LT at *
  refine Ev.step rfl rfl ?_
  refine Ev.step rfl rfl ?_
  refine Ev.call rfl rfl fr_X10 ?_
  refine Ev.step rfl rfl ?_
  refine Ev.step rfl rfl ?_
  refine Ev.step rfl rfl ?_
  refine Ev.call rfl rfl fr_X11 ?_
  refine Ev.step rfl rfl ?_
  refine Ev.step rfl rfl ?_
  refine Ev.step rfl rfl ?_
  refine Ev.step rfl rfl ?_
  refine Ev.step rfl rfl ?_
  refine Ev.step rfl rfl ?_
  rw [← fr_out] at h
  exact h
set_option maxRecDepth 100000 in
theorem law_out (xs : Nat → Int32) (n : Nat) {u : Nat × Nat} {hp : ab_H} {lo : List (Option Value)} (h1 : u.1 ≤ 600002) (h2 : u.2 ≤ 7302231) : Ev (LT xs n) 1474 (lo, [], u, hp) (fun _ => True) := by
  unfold LT
  refine Ev.step rfl rfl ?_
  refine Ev.ret (o := (some (.int 1), hp)) rfl ?_ trivial
  simp [ab_lret, h1, h2]
