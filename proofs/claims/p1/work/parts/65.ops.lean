/-! ===== one operation of the law ===== -/
theorem Ev.same {T : Nat → Option ab_A} {t j : Nat} {s : ab_S} {r : Int32} {Q : ab_O → Prop} (h : Ev T t s Q) : Ev T (cond (decide (r = r)) t j) s Q := by
  rw [decide_eq_true (rfl : r = r)]
  exact h
def MG (m : Nat) (g : Nat → ab_E) : ab_H := (m + 88, fun k => cond (decide (69 ≤ k) && decide (k < 88)) (FL 88 k) (g k))
set_option maxRecDepth 100000 in
theorem law_next (xs : Nat → Int32) {u : Nat × Nat} {hp : ab_H} (h1 : u.1 ≤ 600002) (h2 : u.2 ≤ 7302231) : Ev (LT xs 6) 1468 (LO 0, [], u, hp) (fun _ => True) := by
  unfold LT LO
  refine Ev.step rfl rfl ?_
  refine Ev.step rfl rfl ?_
  refine Ev.step rfl rfl ?_
  refine Ev.step rfl rfl ?_
  refine Ev.step rfl rfl ?_
  refine Ev.step rfl rfl ?_
  refine Ev.step rfl rfl ?_
  refine Ev.step rfl rfl ?_
  exact law_out xs 6 h1 h2
set_option maxRecDepth 100000 in
theorem op_feed (xs : Nat → Int32) {r : Int32} (hc : ∃ m g, Z_X10_feed [.ref 0, .int (xs 1), .int (xs 2), .int (xs 3), .int (xs 4), .int (xs 5)] H0 = some (some (.int r), MG m g)) (hm : ∀ m g, ∃ hp, Z_X11_feed [.ref 69, .int (xs 1), .int (xs 2), .int (xs 3), .int (xs 4), .int (xs 5)] (MG m g) = some (some (.int r), hp)) : Ev (LT xs 6) 220 (LO 0, [], (88, 8872), H0) (fun _ => True) := by
  obtain ⟨m, g, hc⟩ := hc
  obtain ⟨hp, hm⟩ := hm m g
  refine Ev.step rfl rfl ?_
  refine Ev.step rfl rfl ?_
  refine Ev.step rfl rfl ?_
  refine Ev.step rfl rfl ?_
  refine Ev.step rfl rfl ?_
  refine Ev.step rfl rfl ?_
  refine Ev.step rfl rfl ?_
  refine Ev.step rfl rfl ?_
  refine Ev.step rfl rfl ?_
  refine Ev.step rfl rfl ?_
  refine Ev.step rfl rfl ?_
  refine Ev.step rfl rfl ?_
  refine Ev.step rfl rfl ?_
  refine Ev.step rfl rfl ?_
  refine Ev.step rfl rfl ?_
  refine Ev.step rfl rfl ?_
  refine Ev.step rfl rfl ?_
  refine Ev.step rfl rfl ?_
  refine Ev.step rfl rfl ?_
  refine Ev.step rfl rfl ?_
  refine Ev.step rfl rfl ?_
  refine Ev.step rfl rfl ?_
  refine Ev.step rfl rfl ?_
  refine Ev.step rfl rfl ?_
  refine Ev.step rfl rfl ?_
  refine Ev.step rfl rfl ?_
  refine (show Ev (LT xs 6) 251 (LO 0, [.int (xs 5), .int (xs 4), .int (xs 3), .int (xs 2), .int (xs 1), .ref 0], (88, 8872), H0) (fun _ => True) from ?_)
  refine Ev.callV rfl rfl rfl hc ?_
  refine (show Ev (LT xs 6) 254 (LO 0, [.int r], (88, 8872), MG m g) (fun _ => True) from ?_)
  refine Ev.step rfl rfl ?_
  refine Ev.step rfl rfl ?_
  refine Ev.step rfl rfl ?_
  refine Ev.step rfl rfl ?_
  refine Ev.step rfl rfl ?_
  refine Ev.step rfl rfl ?_
  refine Ev.step rfl rfl ?_
  refine Ev.step rfl rfl ?_
  refine Ev.step rfl rfl ?_
  refine Ev.step rfl rfl ?_
  refine Ev.step rfl rfl ?_
  refine Ev.step rfl rfl ?_
  refine Ev.step rfl rfl ?_
  refine Ev.step rfl rfl ?_
  refine Ev.step rfl rfl ?_
  refine Ev.step rfl rfl ?_
  refine Ev.step rfl rfl ?_
  refine Ev.step rfl rfl ?_
  refine Ev.step rfl rfl ?_
  refine Ev.step rfl rfl ?_
  refine Ev.step rfl rfl ?_
  refine Ev.step rfl rfl ?_
  refine Ev.step rfl rfl ?_
  refine Ev.step rfl rfl ?_
  refine Ev.step rfl rfl ?_
  refine Ev.step rfl rfl ?_
  refine (show Ev (LT xs 6) 285 (LO 0, [.int (xs 5), .int (xs 4), .int (xs 3), .int (xs 2), .int (xs 1), .ref 69, .int r], (88, 8872), MG m g) (fun _ => True) from ?_)
  refine Ev.callV rfl rfl rfl hm ?_
  refine (show Ev (LT xs 6) 288 (LO 0, [.int r, .int r], (88, 8872), hp) (fun _ => True) from ?_)
  refine Ev.step rfl rfl ?_
  refine Ev.same (r := r) ?_
  exact law_next xs (u := (88, 8872)) (hp := hp) (by decide) (by decide)
set_option maxRecDepth 100000 in
theorem op_end (xs : Nat → Int32) {r : Int32} (hc : ∃ m g, Z_X10_end [.ref 0, .int (xs 1)] H0 = some (some (.int r), MG m g)) (hm : ∀ m g, ∃ hp, Z_X11_end [.ref 69, .int (xs 1)] (MG m g) = some (some (.int r), hp)) : Ev (LT xs 6) 293 (LO 0, [], (88, 8872), H0) (fun _ => True) := by
  obtain ⟨m, g, hc⟩ := hc
  obtain ⟨hp, hm⟩ := hm m g
  refine Ev.step rfl rfl ?_
  refine Ev.step rfl rfl ?_
  refine Ev.step rfl rfl ?_
  refine Ev.step rfl rfl ?_
  refine Ev.step rfl rfl ?_
  refine Ev.step rfl rfl ?_
  refine (show Ev (LT xs 6) 300 (LO 0, [.int (xs 1), .ref 0], (88, 8872), H0) (fun _ => True) from ?_)
  refine Ev.callV rfl rfl rfl hc ?_
  refine (show Ev (LT xs 6) 303 (LO 0, [.int r], (88, 8872), MG m g) (fun _ => True) from ?_)
  refine Ev.step rfl rfl ?_
  refine Ev.step rfl rfl ?_
  refine Ev.step rfl rfl ?_
  refine Ev.step rfl rfl ?_
  refine Ev.step rfl rfl ?_
  refine Ev.step rfl rfl ?_
  refine (show Ev (LT xs 6) 310 (LO 0, [.int (xs 1), .ref 69, .int r], (88, 8872), MG m g) (fun _ => True) from ?_)
  refine Ev.callV rfl rfl rfl hm ?_
  refine (show Ev (LT xs 6) 313 (LO 0, [.int r, .int r], (88, 8872), hp) (fun _ => True) from ?_)
  refine Ev.step rfl rfl ?_
  refine Ev.same (r := r) ?_
  exact law_next xs (u := (88, 8872)) (hp := hp) (by decide) (by decide)
set_option maxRecDepth 100000 in
theorem op_strait (xs : Nat → Int32) {r : Int32} (hc : ∃ m g, Z_X10_strait [.ref 0] H0 = some (some (.int r), MG m g)) (hm : ∀ m g, ∃ hp, Z_X11_strait [.ref 69] (MG m g) = some (some (.int r), hp)) : Ev (LT xs 6) 318 (LO 0, [], (88, 8872), H0) (fun _ => True) := by
  obtain ⟨m, g, hc⟩ := hc
  obtain ⟨hp, hm⟩ := hm m g
  refine Ev.step rfl rfl ?_
  refine (show Ev (LT xs 6) 319 (LO 0, [.ref 0], (88, 8872), H0) (fun _ => True) from ?_)
  refine Ev.callV rfl rfl rfl hc ?_
  refine (show Ev (LT xs 6) 322 (LO 0, [.int r], (88, 8872), MG m g) (fun _ => True) from ?_)
  refine Ev.step rfl rfl ?_
  refine (show Ev (LT xs 6) 323 (LO 0, [.ref 69, .int r], (88, 8872), MG m g) (fun _ => True) from ?_)
  refine Ev.callV rfl rfl rfl hm ?_
  refine (show Ev (LT xs 6) 326 (LO 0, [.int r, .int r], (88, 8872), hp) (fun _ => True) from ?_)
  refine Ev.step rfl rfl ?_
  refine Ev.same (r := r) ?_
  exact law_next xs (u := (88, 8872)) (hp := hp) (by decide) (by decide)
set_option maxRecDepth 100000 in
theorem op_fault (xs : Nat → Int32) {r : Int32} (hc : ∃ m g, Z_X10_fault [.ref 0] H0 = some (some (.int r), MG m g)) (hm : ∀ m g, ∃ hp, Z_X11_fault [.ref 69] (MG m g) = some (some (.int r), hp)) : Ev (LT xs 6) 331 (LO 0, [], (88, 8872), H0) (fun _ => True) := by
  obtain ⟨m, g, hc⟩ := hc
  obtain ⟨hp, hm⟩ := hm m g
  refine Ev.step rfl rfl ?_
  refine (show Ev (LT xs 6) 332 (LO 0, [.ref 0], (88, 8872), H0) (fun _ => True) from ?_)
  refine Ev.callV rfl rfl rfl hc ?_
  refine (show Ev (LT xs 6) 335 (LO 0, [.int r], (88, 8872), MG m g) (fun _ => True) from ?_)
  refine Ev.step rfl rfl ?_
  refine (show Ev (LT xs 6) 336 (LO 0, [.ref 69, .int r], (88, 8872), MG m g) (fun _ => True) from ?_)
  refine Ev.callV rfl rfl rfl hm ?_
  refine (show Ev (LT xs 6) 339 (LO 0, [.int r, .int r], (88, 8872), hp) (fun _ => True) from ?_)
  refine Ev.step rfl rfl ?_
  refine Ev.same (r := r) ?_
  exact law_next xs (u := (88, 8872)) (hp := hp) (by decide) (by decide)
set_option maxRecDepth 100000 in
theorem op_good (xs : Nat → Int32) {r : Int32} (hc : ∃ m g, Z_X10_good [.ref 0, .int (xs 1), .int (xs 2), .int (xs 3)] H0 = some (some (.int r), MG m g)) (hm : ∀ m g, ∃ hp, Z_X11_good [.ref 69, .int (xs 1), .int (xs 2), .int (xs 3)] (MG m g) = some (some (.int r), hp)) : Ev (LT xs 6) 344 (LO 0, [], (88, 8872), H0) (fun _ => True) := by
  obtain ⟨m, g, hc⟩ := hc
  obtain ⟨hp, hm⟩ := hm m g
  refine Ev.step rfl rfl ?_
  refine Ev.step rfl rfl ?_
  refine Ev.step rfl rfl ?_
  refine Ev.step rfl rfl ?_
  refine Ev.step rfl rfl ?_
  refine Ev.step rfl rfl ?_
  refine Ev.step rfl rfl ?_
  refine Ev.step rfl rfl ?_
  refine Ev.step rfl rfl ?_
  refine Ev.step rfl rfl ?_
  refine Ev.step rfl rfl ?_
  refine Ev.step rfl rfl ?_
  refine Ev.step rfl rfl ?_
  refine Ev.step rfl rfl ?_
  refine Ev.step rfl rfl ?_
  refine Ev.step rfl rfl ?_
  refine (show Ev (LT xs 6) 363 (LO 0, [.int (xs 3), .int (xs 2), .int (xs 1), .ref 0], (88, 8872), H0) (fun _ => True) from ?_)
  refine Ev.callV rfl rfl rfl hc ?_
  refine (show Ev (LT xs 6) 366 (LO 0, [.int r], (88, 8872), MG m g) (fun _ => True) from ?_)
  refine Ev.step rfl rfl ?_
  refine Ev.step rfl rfl ?_
  refine Ev.step rfl rfl ?_
  refine Ev.step rfl rfl ?_
  refine Ev.step rfl rfl ?_
  refine Ev.step rfl rfl ?_
  refine Ev.step rfl rfl ?_
  refine Ev.step rfl rfl ?_
  refine Ev.step rfl rfl ?_
  refine Ev.step rfl rfl ?_
  refine Ev.step rfl rfl ?_
  refine Ev.step rfl rfl ?_
  refine Ev.step rfl rfl ?_
  refine Ev.step rfl rfl ?_
  refine Ev.step rfl rfl ?_
  refine Ev.step rfl rfl ?_
  refine (show Ev (LT xs 6) 385 (LO 0, [.int (xs 3), .int (xs 2), .int (xs 1), .ref 69, .int r], (88, 8872), MG m g) (fun _ => True) from ?_)
  refine Ev.callV rfl rfl rfl hm ?_
  refine (show Ev (LT xs 6) 388 (LO 0, [.int r, .int r], (88, 8872), hp) (fun _ => True) from ?_)
  refine Ev.step rfl rfl ?_
  refine Ev.same (r := r) ?_
  exact law_next xs (u := (88, 8872)) (hp := hp) (by decide) (by decide)
set_option maxRecDepth 100000 in
theorem op_crossed (xs : Nat → Int32) {r : Int32} (hc : ∃ m g, Z_X10_crossed [.ref 0, .int (xs 1), .int (xs 2)] H0 = some (some (.int r), MG m g)) (hm : ∀ m g, ∃ hp, Z_X11_crossed [.ref 69, .int (xs 1), .int (xs 2)] (MG m g) = some (some (.int r), hp)) : Ev (LT xs 6) 393 (LO 0, [], (88, 8872), H0) (fun _ => True) := by
  obtain ⟨m, g, hc⟩ := hc
  obtain ⟨hp, hm⟩ := hm m g
  refine Ev.step rfl rfl ?_
  refine Ev.step rfl rfl ?_
  refine Ev.step rfl rfl ?_
  refine Ev.step rfl rfl ?_
  refine Ev.step rfl rfl ?_
  refine Ev.step rfl rfl ?_
  refine Ev.step rfl rfl ?_
  refine Ev.step rfl rfl ?_
  refine Ev.step rfl rfl ?_
  refine Ev.step rfl rfl ?_
  refine Ev.step rfl rfl ?_
  refine (show Ev (LT xs 6) 406 (LO 0, [.int (xs 2), .int (xs 1), .ref 0], (88, 8872), H0) (fun _ => True) from ?_)
  refine Ev.callV rfl rfl rfl hc ?_
  refine (show Ev (LT xs 6) 409 (LO 0, [.int r], (88, 8872), MG m g) (fun _ => True) from ?_)
  refine Ev.step rfl rfl ?_
  refine Ev.step rfl rfl ?_
  refine Ev.step rfl rfl ?_
  refine Ev.step rfl rfl ?_
  refine Ev.step rfl rfl ?_
  refine Ev.step rfl rfl ?_
  refine Ev.step rfl rfl ?_
  refine Ev.step rfl rfl ?_
  refine Ev.step rfl rfl ?_
  refine Ev.step rfl rfl ?_
  refine Ev.step rfl rfl ?_
  refine (show Ev (LT xs 6) 422 (LO 0, [.int (xs 2), .int (xs 1), .ref 69, .int r], (88, 8872), MG m g) (fun _ => True) from ?_)
  refine Ev.callV rfl rfl rfl hm ?_
  refine (show Ev (LT xs 6) 425 (LO 0, [.int r, .int r], (88, 8872), hp) (fun _ => True) from ?_)
  refine Ev.step rfl rfl ?_
  refine Ev.same (r := r) ?_
  exact law_next xs (u := (88, 8872)) (hp := hp) (by decide) (by decide)
set_option maxRecDepth 100000 in
theorem op_apart (xs : Nat → Int32) {r : Int32} (hc : ∃ m g, Z_X10_apart [.ref 0, .int (xs 1), .int (xs 2)] H0 = some (some (.int r), MG m g)) (hm : ∀ m g, ∃ hp, Z_X11_apart [.ref 69, .int (xs 1), .int (xs 2)] (MG m g) = some (some (.int r), hp)) : Ev (LT xs 6) 498 (LO 0, [], (88, 8872), H0) (fun _ => True) := by
  obtain ⟨m, g, hc⟩ := hc
  obtain ⟨hp, hm⟩ := hm m g
  refine Ev.step rfl rfl ?_
  refine Ev.step rfl rfl ?_
  refine Ev.step rfl rfl ?_
  refine Ev.step rfl rfl ?_
  refine Ev.step rfl rfl ?_
  refine Ev.step rfl rfl ?_
  refine Ev.step rfl rfl ?_
  refine Ev.step rfl rfl ?_
  refine Ev.step rfl rfl ?_
  refine Ev.step rfl rfl ?_
  refine Ev.step rfl rfl ?_
  refine (show Ev (LT xs 6) 511 (LO 0, [.int (xs 2), .int (xs 1), .ref 0], (88, 8872), H0) (fun _ => True) from ?_)
  refine Ev.callV rfl rfl rfl hc ?_
  refine (show Ev (LT xs 6) 514 (LO 0, [.int r], (88, 8872), MG m g) (fun _ => True) from ?_)
  refine Ev.step rfl rfl ?_
  refine Ev.step rfl rfl ?_
  refine Ev.step rfl rfl ?_
  refine Ev.step rfl rfl ?_
  refine Ev.step rfl rfl ?_
  refine Ev.step rfl rfl ?_
  refine Ev.step rfl rfl ?_
  refine Ev.step rfl rfl ?_
  refine Ev.step rfl rfl ?_
  refine Ev.step rfl rfl ?_
  refine Ev.step rfl rfl ?_
  refine (show Ev (LT xs 6) 527 (LO 0, [.int (xs 2), .int (xs 1), .ref 69, .int r], (88, 8872), MG m g) (fun _ => True) from ?_)
  refine Ev.callV rfl rfl rfl hm ?_
  refine (show Ev (LT xs 6) 530 (LO 0, [.int r, .int r], (88, 8872), hp) (fun _ => True) from ?_)
  refine Ev.step rfl rfl ?_
  refine Ev.same (r := r) ?_
  exact law_next xs (u := (88, 8872)) (hp := hp) (by decide) (by decide)
set_option maxRecDepth 100000 in
theorem op_now (xs : Nat → Int32) {r : Int32} (hc : ∃ m g, Z_X10_now [.ref 0, .int (xs 1)] H0 = some (some (.int r), MG m g)) (hm : ∀ m g, ∃ hp, Z_X11_now [.ref 69, .int (xs 1)] (MG m g) = some (some (.int r), hp)) : Ev (LT xs 6) 535 (LO 0, [], (88, 8872), H0) (fun _ => True) := by
  obtain ⟨m, g, hc⟩ := hc
  obtain ⟨hp, hm⟩ := hm m g
  refine Ev.step rfl rfl ?_
  refine Ev.step rfl rfl ?_
  refine Ev.step rfl rfl ?_
  refine Ev.step rfl rfl ?_
  refine Ev.step rfl rfl ?_
  refine Ev.step rfl rfl ?_
  refine (show Ev (LT xs 6) 542 (LO 0, [.int (xs 1), .ref 0], (88, 8872), H0) (fun _ => True) from ?_)
  refine Ev.callV rfl rfl rfl hc ?_
  refine (show Ev (LT xs 6) 545 (LO 0, [.int r], (88, 8872), MG m g) (fun _ => True) from ?_)
  refine Ev.step rfl rfl ?_
  refine Ev.step rfl rfl ?_
  refine Ev.step rfl rfl ?_
  refine Ev.step rfl rfl ?_
  refine Ev.step rfl rfl ?_
  refine Ev.step rfl rfl ?_
  refine (show Ev (LT xs 6) 552 (LO 0, [.int (xs 1), .ref 69, .int r], (88, 8872), MG m g) (fun _ => True) from ?_)
  refine Ev.callV rfl rfl rfl hm ?_
  refine (show Ev (LT xs 6) 555 (LO 0, [.int r, .int r], (88, 8872), hp) (fun _ => True) from ?_)
  refine Ev.step rfl rfl ?_
  refine Ev.same (r := r) ?_
  exact law_next xs (u := (88, 8872)) (hp := hp) (by decide) (by decide)
set_option maxRecDepth 100000 in
theorem op_hoard (xs : Nat → Int32) {r : Int32} (hc : ∃ m g, Z_X10_hoard [.ref 0, .int (xs 1), .int (xs 2), .int (xs 3)] H0 = some (some (.int r), MG m g)) (hm : ∀ m g, ∃ hp, Z_X11_hoard [.ref 69, .int (xs 1), .int (xs 2), .int (xs 3)] (MG m g) = some (some (.int r), hp)) : Ev (LT xs 6) 560 (LO 0, [], (88, 8872), H0) (fun _ => True) := by
  obtain ⟨m, g, hc⟩ := hc
  obtain ⟨hp, hm⟩ := hm m g
  refine Ev.step rfl rfl ?_
  refine Ev.step rfl rfl ?_
  refine Ev.step rfl rfl ?_
  refine Ev.step rfl rfl ?_
  refine Ev.step rfl rfl ?_
  refine Ev.step rfl rfl ?_
  refine Ev.step rfl rfl ?_
  refine Ev.step rfl rfl ?_
  refine Ev.step rfl rfl ?_
  refine Ev.step rfl rfl ?_
  refine Ev.step rfl rfl ?_
  refine Ev.step rfl rfl ?_
  refine Ev.step rfl rfl ?_
  refine Ev.step rfl rfl ?_
  refine Ev.step rfl rfl ?_
  refine Ev.step rfl rfl ?_
  refine (show Ev (LT xs 6) 579 (LO 0, [.int (xs 3), .int (xs 2), .int (xs 1), .ref 0], (88, 8872), H0) (fun _ => True) from ?_)
  refine Ev.callV rfl rfl rfl hc ?_
  refine (show Ev (LT xs 6) 582 (LO 0, [.int r], (96, 9010), MG m g) (fun _ => True) from ?_)
  refine Ev.step rfl rfl ?_
  refine Ev.step rfl rfl ?_
  refine Ev.step rfl rfl ?_
  refine Ev.step rfl rfl ?_
  refine Ev.step rfl rfl ?_
  refine Ev.step rfl rfl ?_
  refine Ev.step rfl rfl ?_
  refine Ev.step rfl rfl ?_
  refine Ev.step rfl rfl ?_
  refine Ev.step rfl rfl ?_
  refine Ev.step rfl rfl ?_
  refine Ev.step rfl rfl ?_
  refine Ev.step rfl rfl ?_
  refine Ev.step rfl rfl ?_
  refine Ev.step rfl rfl ?_
  refine Ev.step rfl rfl ?_
  refine (show Ev (LT xs 6) 601 (LO 0, [.int (xs 3), .int (xs 2), .int (xs 1), .ref 69, .int r], (96, 9010), MG m g) (fun _ => True) from ?_)
  refine Ev.callV rfl rfl rfl hm ?_
  refine (show Ev (LT xs 6) 604 (LO 0, [.int r, .int r], (96, 9010), hp) (fun _ => True) from ?_)
  refine Ev.step rfl rfl ?_
  refine Ev.same (r := r) ?_
  exact law_next xs (u := (96, 9010)) (hp := hp) (by decide) (by decide)
set_option maxRecDepth 100000 in
theorem op_bare (xs : Nat → Int32) {r : Int32} (hc : ∃ m g, Z_X10_bare [.ref 0, .int (xs 1), .int (xs 2), .int (xs 3)] H0 = some (some (.int r), MG m g)) (hm : ∀ m g, ∃ hp, Z_X11_bare [.ref 69, .int (xs 1), .int (xs 2), .int (xs 3)] (MG m g) = some (some (.int r), hp)) : Ev (LT xs 6) 609 (LO 0, [], (88, 8872), H0) (fun _ => True) := by
  obtain ⟨m, g, hc⟩ := hc
  obtain ⟨hp, hm⟩ := hm m g
  refine Ev.step rfl rfl ?_
  refine Ev.step rfl rfl ?_
  refine Ev.step rfl rfl ?_
  refine Ev.step rfl rfl ?_
  refine Ev.step rfl rfl ?_
  refine Ev.step rfl rfl ?_
  refine Ev.step rfl rfl ?_
  refine Ev.step rfl rfl ?_
  refine Ev.step rfl rfl ?_
  refine Ev.step rfl rfl ?_
  refine Ev.step rfl rfl ?_
  refine Ev.step rfl rfl ?_
  refine Ev.step rfl rfl ?_
  refine Ev.step rfl rfl ?_
  refine Ev.step rfl rfl ?_
  refine Ev.step rfl rfl ?_
  refine (show Ev (LT xs 6) 628 (LO 0, [.int (xs 3), .int (xs 2), .int (xs 1), .ref 0], (88, 8872), H0) (fun _ => True) from ?_)
  refine Ev.callV rfl rfl rfl hc ?_
  refine (show Ev (LT xs 6) 631 (LO 0, [.int r], (96, 9010), MG m g) (fun _ => True) from ?_)
  refine Ev.step rfl rfl ?_
  refine Ev.step rfl rfl ?_
  refine Ev.step rfl rfl ?_
  refine Ev.step rfl rfl ?_
  refine Ev.step rfl rfl ?_
  refine Ev.step rfl rfl ?_
  refine Ev.step rfl rfl ?_
  refine Ev.step rfl rfl ?_
  refine Ev.step rfl rfl ?_
  refine Ev.step rfl rfl ?_
  refine Ev.step rfl rfl ?_
  refine Ev.step rfl rfl ?_
  refine Ev.step rfl rfl ?_
  refine Ev.step rfl rfl ?_
  refine Ev.step rfl rfl ?_
  refine Ev.step rfl rfl ?_
  refine (show Ev (LT xs 6) 650 (LO 0, [.int (xs 3), .int (xs 2), .int (xs 1), .ref 69, .int r], (96, 9010), MG m g) (fun _ => True) from ?_)
  refine Ev.callV rfl rfl rfl hm ?_
  refine (show Ev (LT xs 6) 653 (LO 0, [.int r, .int r], (96, 9010), hp) (fun _ => True) from ?_)
  refine Ev.step rfl rfl ?_
  refine Ev.same (r := r) ?_
  exact law_next xs (u := (96, 9010)) (hp := hp) (by decide) (by decide)
set_option maxRecDepth 100000 in
theorem op_waste (xs : Nat → Int32) {r : Int32} (hc : ∃ m g, Z_X10_waste [.ref 0, .int (xs 1), .int (xs 2), .int (xs 3)] H0 = some (some (.int r), MG m g)) (hm : ∀ m g, ∃ hp, Z_X11_waste [.ref 69, .int (xs 1), .int (xs 2), .int (xs 3)] (MG m g) = some (some (.int r), hp)) : Ev (LT xs 6) 658 (LO 0, [], (88, 8872), H0) (fun _ => True) := by
  obtain ⟨m, g, hc⟩ := hc
  obtain ⟨hp, hm⟩ := hm m g
  refine Ev.step rfl rfl ?_
  refine Ev.step rfl rfl ?_
  refine Ev.step rfl rfl ?_
  refine Ev.step rfl rfl ?_
  refine Ev.step rfl rfl ?_
  refine Ev.step rfl rfl ?_
  refine Ev.step rfl rfl ?_
  refine Ev.step rfl rfl ?_
  refine Ev.step rfl rfl ?_
  refine Ev.step rfl rfl ?_
  refine Ev.step rfl rfl ?_
  refine Ev.step rfl rfl ?_
  refine Ev.step rfl rfl ?_
  refine Ev.step rfl rfl ?_
  refine Ev.step rfl rfl ?_
  refine Ev.step rfl rfl ?_
  refine (show Ev (LT xs 6) 677 (LO 0, [.int (xs 3), .int (xs 2), .int (xs 1), .ref 0], (88, 8872), H0) (fun _ => True) from ?_)
  refine Ev.callV rfl rfl rfl hc ?_
  refine (show Ev (LT xs 6) 680 (LO 0, [.int r], (96, 9010), MG m g) (fun _ => True) from ?_)
  refine Ev.step rfl rfl ?_
  refine Ev.step rfl rfl ?_
  refine Ev.step rfl rfl ?_
  refine Ev.step rfl rfl ?_
  refine Ev.step rfl rfl ?_
  refine Ev.step rfl rfl ?_
  refine Ev.step rfl rfl ?_
  refine Ev.step rfl rfl ?_
  refine Ev.step rfl rfl ?_
  refine Ev.step rfl rfl ?_
  refine Ev.step rfl rfl ?_
  refine Ev.step rfl rfl ?_
  refine Ev.step rfl rfl ?_
  refine Ev.step rfl rfl ?_
  refine Ev.step rfl rfl ?_
  refine Ev.step rfl rfl ?_
  refine (show Ev (LT xs 6) 699 (LO 0, [.int (xs 3), .int (xs 2), .int (xs 1), .ref 69, .int r], (96, 9010), MG m g) (fun _ => True) from ?_)
  refine Ev.callV rfl rfl rfl hm ?_
  refine (show Ev (LT xs 6) 702 (LO 0, [.int r, .int r], (96, 9010), hp) (fun _ => True) from ?_)
  refine Ev.step rfl rfl ?_
  refine Ev.same (r := r) ?_
  exact law_next xs (u := (96, 9010)) (hp := hp) (by decide) (by decide)
set_option maxRecDepth 100000 in
theorem op_die (xs : Nat → Int32) {r : Int32} (hc : ∃ m g, Z_X10_die [.ref 0, .int (xs 1)] H0 = some (some (.int r), MG m g)) (hm : ∀ m g, ∃ hp, Z_X11_die [.ref 69, .int (xs 1)] (MG m g) = some (some (.int r), hp)) : Ev (LT xs 6) 707 (LO 0, [], (88, 8872), H0) (fun _ => True) := by
  obtain ⟨m, g, hc⟩ := hc
  obtain ⟨hp, hm⟩ := hm m g
  refine Ev.step rfl rfl ?_
  refine Ev.step rfl rfl ?_
  refine Ev.step rfl rfl ?_
  refine Ev.step rfl rfl ?_
  refine Ev.step rfl rfl ?_
  refine Ev.step rfl rfl ?_
  refine (show Ev (LT xs 6) 714 (LO 0, [.int (xs 1), .ref 0], (88, 8872), H0) (fun _ => True) from ?_)
  refine Ev.callV rfl rfl rfl hc ?_
  refine (show Ev (LT xs 6) 717 (LO 0, [.int r], (96, 9010), MG m g) (fun _ => True) from ?_)
  refine Ev.step rfl rfl ?_
  refine Ev.step rfl rfl ?_
  refine Ev.step rfl rfl ?_
  refine Ev.step rfl rfl ?_
  refine Ev.step rfl rfl ?_
  refine Ev.step rfl rfl ?_
  refine (show Ev (LT xs 6) 724 (LO 0, [.int (xs 1), .ref 69, .int r], (96, 9010), MG m g) (fun _ => True) from ?_)
  refine Ev.callV rfl rfl rfl hm ?_
  refine (show Ev (LT xs 6) 727 (LO 0, [.int r, .int r], (96, 9010), hp) (fun _ => True) from ?_)
  refine Ev.step rfl rfl ?_
  refine Ev.same (r := r) ?_
  exact law_next xs (u := (96, 9010)) (hp := hp) (by decide) (by decide)
set_option maxRecDepth 100000 in
theorem op_days (xs : Nat → Int32) {r : Int32} (hc : ∃ m g, Z_X10_days [.ref 0, .int (xs 1)] H0 = some (some (.int r), MG m g)) (hm : ∀ m g, ∃ hp, Z_X11_days [.ref 69, .int (xs 1)] (MG m g) = some (some (.int r), hp)) : Ev (LT xs 6) 732 (LO 0, [], (88, 8872), H0) (fun _ => True) := by
  obtain ⟨m, g, hc⟩ := hc
  obtain ⟨hp, hm⟩ := hm m g
  refine Ev.step rfl rfl ?_
  refine Ev.step rfl rfl ?_
  refine Ev.step rfl rfl ?_
  refine Ev.step rfl rfl ?_
  refine Ev.step rfl rfl ?_
  refine Ev.step rfl rfl ?_
  refine (show Ev (LT xs 6) 739 (LO 0, [.int (xs 1), .ref 0], (88, 8872), H0) (fun _ => True) from ?_)
  refine Ev.callV rfl rfl rfl hc ?_
  refine (show Ev (LT xs 6) 742 (LO 0, [.int r], (96, 9010), MG m g) (fun _ => True) from ?_)
  refine Ev.step rfl rfl ?_
  refine Ev.step rfl rfl ?_
  refine Ev.step rfl rfl ?_
  refine Ev.step rfl rfl ?_
  refine Ev.step rfl rfl ?_
  refine Ev.step rfl rfl ?_
  refine (show Ev (LT xs 6) 749 (LO 0, [.int (xs 1), .ref 69, .int r], (96, 9010), MG m g) (fun _ => True) from ?_)
  refine Ev.callV rfl rfl rfl hm ?_
  refine (show Ev (LT xs 6) 752 (LO 0, [.int r, .int r], (96, 9010), hp) (fun _ => True) from ?_)
  refine Ev.step rfl rfl ?_
  refine Ev.same (r := r) ?_
  exact law_next xs (u := (96, 9010)) (hp := hp) (by decide) (by decide)
set_option maxRecDepth 100000 in
theorem op_undo (xs : Nat → Int32) {r : Int32} (hc : ∃ m g, Z_X10_undo [.ref 0] H0 = some (some (.int r), MG m g)) (hm : ∀ m g, ∃ hp, Z_X11_undo [.ref 69] (MG m g) = some (some (.int r), hp)) : Ev (LT xs 6) 757 (LO 0, [], (88, 8872), H0) (fun _ => True) := by
  obtain ⟨m, g, hc⟩ := hc
  obtain ⟨hp, hm⟩ := hm m g
  refine Ev.step rfl rfl ?_
  refine (show Ev (LT xs 6) 758 (LO 0, [.ref 0], (88, 8872), H0) (fun _ => True) from ?_)
  refine Ev.callV rfl rfl rfl hc ?_
  refine (show Ev (LT xs 6) 761 (LO 0, [.int r], (88, 8872), MG m g) (fun _ => True) from ?_)
  refine Ev.step rfl rfl ?_
  refine (show Ev (LT xs 6) 762 (LO 0, [.ref 69, .int r], (88, 8872), MG m g) (fun _ => True) from ?_)
  refine Ev.callV rfl rfl rfl hm ?_
  refine (show Ev (LT xs 6) 765 (LO 0, [.int r, .int r], (88, 8872), hp) (fun _ => True) from ?_)
  refine Ev.step rfl rfl ?_
  refine Ev.same (r := r) ?_
  exact law_next xs (u := (88, 8872)) (hp := hp) (by decide) (by decide)
set_option maxRecDepth 100000 in
theorem op_lacks (xs : Nat → Int32) {r : Int32} (hc : ∃ m g, Z_X10_lacks [.ref 0, .int (xs 1)] H0 = some (some (.int r), MG m g)) (hm : ∀ m g, ∃ hp, Z_X11_lacks [.ref 69, .int (xs 1)] (MG m g) = some (some (.int r), hp)) : Ev (LT xs 6) 770 (LO 0, [], (88, 8872), H0) (fun _ => True) := by
  obtain ⟨m, g, hc⟩ := hc
  obtain ⟨hp, hm⟩ := hm m g
  refine Ev.step rfl rfl ?_
  refine Ev.step rfl rfl ?_
  refine Ev.step rfl rfl ?_
  refine Ev.step rfl rfl ?_
  refine Ev.step rfl rfl ?_
  refine Ev.step rfl rfl ?_
  refine (show Ev (LT xs 6) 777 (LO 0, [.int (xs 1), .ref 0], (88, 8872), H0) (fun _ => True) from ?_)
  refine Ev.callV rfl rfl rfl hc ?_
  refine (show Ev (LT xs 6) 780 (LO 0, [.int r], (88, 8872), MG m g) (fun _ => True) from ?_)
  refine Ev.step rfl rfl ?_
  refine Ev.step rfl rfl ?_
  refine Ev.step rfl rfl ?_
  refine Ev.step rfl rfl ?_
  refine Ev.step rfl rfl ?_
  refine Ev.step rfl rfl ?_
  refine (show Ev (LT xs 6) 787 (LO 0, [.int (xs 1), .ref 69, .int r], (88, 8872), MG m g) (fun _ => True) from ?_)
  refine Ev.callV rfl rfl rfl hm ?_
  refine (show Ev (LT xs 6) 790 (LO 0, [.int r, .int r], (88, 8872), hp) (fun _ => True) from ?_)
  refine Ev.step rfl rfl ?_
  refine Ev.same (r := r) ?_
  exact law_next xs (u := (88, 8872)) (hp := hp) (by decide) (by decide)
set_option maxRecDepth 100000 in
theorem op_falses (xs : Nat → Int32) {r : Int32} (hc : ∃ m g, Z_X10_falses [.ref 0, .int (xs 1)] H0 = some (some (.int r), MG m g)) (hm : ∀ m g, ∃ hp, Z_X11_falses [.ref 69, .int (xs 1)] (MG m g) = some (some (.int r), hp)) : Ev (LT xs 6) 795 (LO 0, [], (88, 8872), H0) (fun _ => True) := by
  obtain ⟨m, g, hc⟩ := hc
  obtain ⟨hp, hm⟩ := hm m g
  refine Ev.step rfl rfl ?_
  refine Ev.step rfl rfl ?_
  refine Ev.step rfl rfl ?_
  refine Ev.step rfl rfl ?_
  refine Ev.step rfl rfl ?_
  refine Ev.step rfl rfl ?_
  refine (show Ev (LT xs 6) 802 (LO 0, [.int (xs 1), .ref 0], (88, 8872), H0) (fun _ => True) from ?_)
  refine Ev.callV rfl rfl rfl hc ?_
  refine (show Ev (LT xs 6) 805 (LO 0, [.int r], (88, 8872), MG m g) (fun _ => True) from ?_)
  refine Ev.step rfl rfl ?_
  refine Ev.step rfl rfl ?_
  refine Ev.step rfl rfl ?_
  refine Ev.step rfl rfl ?_
  refine Ev.step rfl rfl ?_
  refine Ev.step rfl rfl ?_
  refine (show Ev (LT xs 6) 812 (LO 0, [.int (xs 1), .ref 69, .int r], (88, 8872), MG m g) (fun _ => True) from ?_)
  refine Ev.callV rfl rfl rfl hm ?_
  refine (show Ev (LT xs 6) 815 (LO 0, [.int r, .int r], (88, 8872), hp) (fun _ => True) from ?_)
  refine Ev.step rfl rfl ?_
  refine Ev.same (r := r) ?_
  exact law_next xs (u := (88, 8872)) (hp := hp) (by decide) (by decide)
set_option maxRecDepth 100000 in
theorem op_going (xs : Nat → Int32) {r : Int32} (hc : ∃ m g, Z_X10_going [.ref 0] H0 = some (some (.int r), MG m g)) (hm : ∀ m g, ∃ hp, Z_X11_going [.ref 69] (MG m g) = some (some (.int r), hp)) : Ev (LT xs 6) 820 (LO 0, [], (88, 8872), H0) (fun _ => True) := by
  obtain ⟨m, g, hc⟩ := hc
  obtain ⟨hp, hm⟩ := hm m g
  refine Ev.step rfl rfl ?_
  refine (show Ev (LT xs 6) 821 (LO 0, [.ref 0], (88, 8872), H0) (fun _ => True) from ?_)
  refine Ev.callV rfl rfl rfl hc ?_
  refine (show Ev (LT xs 6) 824 (LO 0, [.int r], (88, 8872), MG m g) (fun _ => True) from ?_)
  refine Ev.step rfl rfl ?_
  refine (show Ev (LT xs 6) 825 (LO 0, [.ref 69, .int r], (88, 8872), MG m g) (fun _ => True) from ?_)
  refine Ev.callV rfl rfl rfl hm ?_
  refine (show Ev (LT xs 6) 828 (LO 0, [.int r, .int r], (88, 8872), hp) (fun _ => True) from ?_)
  refine Ev.step rfl rfl ?_
  refine Ev.same (r := r) ?_
  exact law_next xs (u := (88, 8872)) (hp := hp) (by decide) (by decide)
set_option maxRecDepth 100000 in
theorem op_goes (xs : Nat → Int32) {r : Int32} (hc : ∃ m g, Z_X10_goes [.ref 0, .int (xs 1)] H0 = some (some (.int r), MG m g)) (hm : ∀ m g, ∃ hp, Z_X11_goes [.ref 69, .int (xs 1)] (MG m g) = some (some (.int r), hp)) : Ev (LT xs 6) 833 (LO 0, [], (88, 8872), H0) (fun _ => True) := by
  obtain ⟨m, g, hc⟩ := hc
  obtain ⟨hp, hm⟩ := hm m g
  refine Ev.step rfl rfl ?_
  refine Ev.step rfl rfl ?_
  refine Ev.step rfl rfl ?_
  refine Ev.step rfl rfl ?_
  refine Ev.step rfl rfl ?_
  refine Ev.step rfl rfl ?_
  refine (show Ev (LT xs 6) 840 (LO 0, [.int (xs 1), .ref 0], (88, 8872), H0) (fun _ => True) from ?_)
  refine Ev.callV rfl rfl rfl hc ?_
  refine (show Ev (LT xs 6) 843 (LO 0, [.int r], (88, 8872), MG m g) (fun _ => True) from ?_)
  refine Ev.step rfl rfl ?_
  refine Ev.step rfl rfl ?_
  refine Ev.step rfl rfl ?_
  refine Ev.step rfl rfl ?_
  refine Ev.step rfl rfl ?_
  refine Ev.step rfl rfl ?_
  refine (show Ev (LT xs 6) 850 (LO 0, [.int (xs 1), .ref 69, .int r], (88, 8872), MG m g) (fun _ => True) from ?_)
  refine Ev.callV rfl rfl rfl hm ?_
  refine (show Ev (LT xs 6) 853 (LO 0, [.int r, .int r], (88, 8872), hp) (fun _ => True) from ?_)
  refine Ev.step rfl rfl ?_
  refine Ev.same (r := r) ?_
  exact law_next xs (u := (88, 8872)) (hp := hp) (by decide) (by decide)
set_option maxRecDepth 100000 in
theorem op_crosses (xs : Nat → Int32) {r : Int32} (hc : ∃ m g, Z_X10_crosses [.ref 0, .int (xs 1)] H0 = some (some (.int r), MG m g)) (hm : ∀ m g, ∃ hp, Z_X11_crosses [.ref 69, .int (xs 1)] (MG m g) = some (some (.int r), hp)) : Ev (LT xs 6) 858 (LO 0, [], (88, 8872), H0) (fun _ => True) := by
  obtain ⟨m, g, hc⟩ := hc
  obtain ⟨hp, hm⟩ := hm m g
  refine Ev.step rfl rfl ?_
  refine Ev.step rfl rfl ?_
  refine Ev.step rfl rfl ?_
  refine Ev.step rfl rfl ?_
  refine Ev.step rfl rfl ?_
  refine Ev.step rfl rfl ?_
  refine (show Ev (LT xs 6) 865 (LO 0, [.int (xs 1), .ref 0], (88, 8872), H0) (fun _ => True) from ?_)
  refine Ev.callV rfl rfl rfl hc ?_
  refine (show Ev (LT xs 6) 868 (LO 0, [.int r], (88, 8872), MG m g) (fun _ => True) from ?_)
  refine Ev.step rfl rfl ?_
  refine Ev.step rfl rfl ?_
  refine Ev.step rfl rfl ?_
  refine Ev.step rfl rfl ?_
  refine Ev.step rfl rfl ?_
  refine Ev.step rfl rfl ?_
  refine (show Ev (LT xs 6) 875 (LO 0, [.int (xs 1), .ref 69, .int r], (88, 8872), MG m g) (fun _ => True) from ?_)
  refine Ev.callV rfl rfl rfl hm ?_
  refine (show Ev (LT xs 6) 878 (LO 0, [.int r, .int r], (88, 8872), hp) (fun _ => True) from ?_)
  refine Ev.step rfl rfl ?_
  refine Ev.same (r := r) ?_
  exact law_next xs (u := (88, 8872)) (hp := hp) (by decide) (by decide)
set_option maxRecDepth 100000 in
theorem op_comes (xs : Nat → Int32) {r : Int32} (hc : ∃ m g, Z_X10_comes [.ref 0, .int (xs 1), .int (xs 2)] H0 = some (some (.int r), MG m g)) (hm : ∀ m g, ∃ hp, Z_X11_comes [.ref 69, .int (xs 1), .int (xs 2)] (MG m g) = some (some (.int r), hp)) : Ev (LT xs 6) 883 (LO 0, [], (88, 8872), H0) (fun _ => True) := by
  obtain ⟨m, g, hc⟩ := hc
  obtain ⟨hp, hm⟩ := hm m g
  refine Ev.step rfl rfl ?_
  refine Ev.step rfl rfl ?_
  refine Ev.step rfl rfl ?_
  refine Ev.step rfl rfl ?_
  refine Ev.step rfl rfl ?_
  refine Ev.step rfl rfl ?_
  refine Ev.step rfl rfl ?_
  refine Ev.step rfl rfl ?_
  refine Ev.step rfl rfl ?_
  refine Ev.step rfl rfl ?_
  refine Ev.step rfl rfl ?_
  refine (show Ev (LT xs 6) 896 (LO 0, [.int (xs 2), .int (xs 1), .ref 0], (88, 8872), H0) (fun _ => True) from ?_)
  refine Ev.callV rfl rfl rfl hc ?_
  refine (show Ev (LT xs 6) 899 (LO 0, [.int r], (88, 8872), MG m g) (fun _ => True) from ?_)
  refine Ev.step rfl rfl ?_
  refine Ev.step rfl rfl ?_
  refine Ev.step rfl rfl ?_
  refine Ev.step rfl rfl ?_
  refine Ev.step rfl rfl ?_
  refine Ev.step rfl rfl ?_
  refine Ev.step rfl rfl ?_
  refine Ev.step rfl rfl ?_
  refine Ev.step rfl rfl ?_
  refine Ev.step rfl rfl ?_
  refine Ev.step rfl rfl ?_
  refine (show Ev (LT xs 6) 912 (LO 0, [.int (xs 2), .int (xs 1), .ref 69, .int r], (88, 8872), MG m g) (fun _ => True) from ?_)
  refine Ev.callV rfl rfl rfl hm ?_
  refine (show Ev (LT xs 6) 915 (LO 0, [.int r, .int r], (88, 8872), hp) (fun _ => True) from ?_)
  refine Ev.step rfl rfl ?_
  refine Ev.same (r := r) ?_
  exact law_next xs (u := (88, 8872)) (hp := hp) (by decide) (by decide)
set_option maxRecDepth 100000 in
theorem op_without (xs : Nat → Int32) {r : Int32} (hc : ∃ m g, Z_X10_without [.ref 0, .int (xs 1), .int (xs 2), .int (xs 3), .int (xs 4)] H0 = some (some (.int r), MG m g)) (hm : ∀ m g, ∃ hp, Z_X11_without [.ref 69, .int (xs 1), .int (xs 2), .int (xs 3), .int (xs 4)] (MG m g) = some (some (.int r), hp)) : Ev (LT xs 6) 920 (LO 0, [], (88, 8872), H0) (fun _ => True) := by
  obtain ⟨m, g, hc⟩ := hc
  obtain ⟨hp, hm⟩ := hm m g
  refine Ev.step rfl rfl ?_
  refine Ev.step rfl rfl ?_
  refine Ev.step rfl rfl ?_
  refine Ev.step rfl rfl ?_
  refine Ev.step rfl rfl ?_
  refine Ev.step rfl rfl ?_
  refine Ev.step rfl rfl ?_
  refine Ev.step rfl rfl ?_
  refine Ev.step rfl rfl ?_
  refine Ev.step rfl rfl ?_
  refine Ev.step rfl rfl ?_
  refine Ev.step rfl rfl ?_
  refine Ev.step rfl rfl ?_
  refine Ev.step rfl rfl ?_
  refine Ev.step rfl rfl ?_
  refine Ev.step rfl rfl ?_
  refine Ev.step rfl rfl ?_
  refine Ev.step rfl rfl ?_
  refine Ev.step rfl rfl ?_
  refine Ev.step rfl rfl ?_
  refine Ev.step rfl rfl ?_
  refine (show Ev (LT xs 6) 945 (LO 0, [.int (xs 4), .int (xs 3), .int (xs 2), .int (xs 1), .ref 0], (88, 8872), H0) (fun _ => True) from ?_)
  refine Ev.callV rfl rfl rfl hc ?_
  refine (show Ev (LT xs 6) 948 (LO 0, [.int r], (88, 8872), MG m g) (fun _ => True) from ?_)
  refine Ev.step rfl rfl ?_
  refine Ev.step rfl rfl ?_
  refine Ev.step rfl rfl ?_
  refine Ev.step rfl rfl ?_
  refine Ev.step rfl rfl ?_
  refine Ev.step rfl rfl ?_
  refine Ev.step rfl rfl ?_
  refine Ev.step rfl rfl ?_
  refine Ev.step rfl rfl ?_
  refine Ev.step rfl rfl ?_
  refine Ev.step rfl rfl ?_
  refine Ev.step rfl rfl ?_
  refine Ev.step rfl rfl ?_
  refine Ev.step rfl rfl ?_
  refine Ev.step rfl rfl ?_
  refine Ev.step rfl rfl ?_
  refine Ev.step rfl rfl ?_
  refine Ev.step rfl rfl ?_
  refine Ev.step rfl rfl ?_
  refine Ev.step rfl rfl ?_
  refine Ev.step rfl rfl ?_
  refine (show Ev (LT xs 6) 973 (LO 0, [.int (xs 4), .int (xs 3), .int (xs 2), .int (xs 1), .ref 69, .int r], (88, 8872), MG m g) (fun _ => True) from ?_)
  refine Ev.callV rfl rfl rfl hm ?_
  refine (show Ev (LT xs 6) 976 (LO 0, [.int r, .int r], (88, 8872), hp) (fun _ => True) from ?_)
  refine Ev.step rfl rfl ?_
  refine Ev.same (r := r) ?_
  exact law_next xs (u := (88, 8872)) (hp := hp) (by decide) (by decide)
set_option maxRecDepth 100000 in
theorem op_meet (xs : Nat → Int32) {r : Int32} (hc : ∃ m g, Z_X10_meet [.ref 0, .int (xs 1), .int (xs 2)] H0 = some (some (.int r), MG m g)) (hm : ∀ m g, ∃ hp, Z_X11_meet [.ref 69, .int (xs 1), .int (xs 2)] (MG m g) = some (some (.int r), hp)) : Ev (LT xs 6) 981 (LO 0, [], (88, 8872), H0) (fun _ => True) := by
  obtain ⟨m, g, hc⟩ := hc
  obtain ⟨hp, hm⟩ := hm m g
  refine Ev.step rfl rfl ?_
  refine Ev.step rfl rfl ?_
  refine Ev.step rfl rfl ?_
  refine Ev.step rfl rfl ?_
  refine Ev.step rfl rfl ?_
  refine Ev.step rfl rfl ?_
  refine Ev.step rfl rfl ?_
  refine Ev.step rfl rfl ?_
  refine Ev.step rfl rfl ?_
  refine Ev.step rfl rfl ?_
  refine Ev.step rfl rfl ?_
  refine (show Ev (LT xs 6) 994 (LO 0, [.int (xs 2), .int (xs 1), .ref 0], (88, 8872), H0) (fun _ => True) from ?_)
  refine Ev.callV rfl rfl rfl hc ?_
  refine (show Ev (LT xs 6) 997 (LO 0, [.int r], (88, 8872), MG m g) (fun _ => True) from ?_)
  refine Ev.step rfl rfl ?_
  refine Ev.step rfl rfl ?_
  refine Ev.step rfl rfl ?_
  refine Ev.step rfl rfl ?_
  refine Ev.step rfl rfl ?_
  refine Ev.step rfl rfl ?_
  refine Ev.step rfl rfl ?_
  refine Ev.step rfl rfl ?_
  refine Ev.step rfl rfl ?_
  refine Ev.step rfl rfl ?_
  refine Ev.step rfl rfl ?_
  refine (show Ev (LT xs 6) 1010 (LO 0, [.int (xs 2), .int (xs 1), .ref 69, .int r], (88, 8872), MG m g) (fun _ => True) from ?_)
  refine Ev.callV rfl rfl rfl hm ?_
  refine (show Ev (LT xs 6) 1013 (LO 0, [.int r, .int r], (88, 8872), hp) (fun _ => True) from ?_)
  refine Ev.step rfl rfl ?_
  refine Ev.same (r := r) ?_
  exact law_next xs (u := (88, 8872)) (hp := hp) (by decide) (by decide)
set_option maxRecDepth 100000 in
theorem op_loads (xs : Nat → Int32) {r : Int32} (hc : ∃ m g, Z_X10_loads [.ref 0, .int (xs 1)] H0 = some (some (.int r), MG m g)) (hm : ∀ m g, ∃ hp, Z_X11_loads [.ref 69, .int (xs 1)] (MG m g) = some (some (.int r), hp)) : Ev (LT xs 6) 1018 (LO 0, [], (88, 8872), H0) (fun _ => True) := by
  obtain ⟨m, g, hc⟩ := hc
  obtain ⟨hp, hm⟩ := hm m g
  refine Ev.step rfl rfl ?_
  refine Ev.step rfl rfl ?_
  refine Ev.step rfl rfl ?_
  refine Ev.step rfl rfl ?_
  refine Ev.step rfl rfl ?_
  refine Ev.step rfl rfl ?_
  refine (show Ev (LT xs 6) 1025 (LO 0, [.int (xs 1), .ref 0], (88, 8872), H0) (fun _ => True) from ?_)
  refine Ev.callV rfl rfl rfl hc ?_
  refine (show Ev (LT xs 6) 1028 (LO 0, [.int r], (88, 8872), MG m g) (fun _ => True) from ?_)
  refine Ev.step rfl rfl ?_
  refine Ev.step rfl rfl ?_
  refine Ev.step rfl rfl ?_
  refine Ev.step rfl rfl ?_
  refine Ev.step rfl rfl ?_
  refine Ev.step rfl rfl ?_
  refine (show Ev (LT xs 6) 1035 (LO 0, [.int (xs 1), .ref 69, .int r], (88, 8872), MG m g) (fun _ => True) from ?_)
  refine Ev.callV rfl rfl rfl hm ?_
  refine (show Ev (LT xs 6) 1038 (LO 0, [.int r, .int r], (88, 8872), hp) (fun _ => True) from ?_)
  refine Ev.step rfl rfl ?_
  refine Ev.same (r := r) ?_
  exact law_next xs (u := (88, 8872)) (hp := hp) (by decide) (by decide)
set_option maxRecDepth 100000 in
theorem op_which (xs : Nat → Int32) {r : Int32} (hc : ∃ m g, Z_X10_which [.ref 0] H0 = some (some (.int r), MG m g)) (hm : ∀ m g, ∃ hp, Z_X11_which [.ref 69] (MG m g) = some (some (.int r), hp)) : Ev (LT xs 6) 1043 (LO 0, [], (88, 8872), H0) (fun _ => True) := by
  obtain ⟨m, g, hc⟩ := hc
  obtain ⟨hp, hm⟩ := hm m g
  refine Ev.step rfl rfl ?_
  refine (show Ev (LT xs 6) 1044 (LO 0, [.ref 0], (88, 8872), H0) (fun _ => True) from ?_)
  refine Ev.callV rfl rfl rfl hc ?_
  refine (show Ev (LT xs 6) 1047 (LO 0, [.int r], (88, 8872), MG m g) (fun _ => True) from ?_)
  refine Ev.step rfl rfl ?_
  refine (show Ev (LT xs 6) 1048 (LO 0, [.ref 69, .int r], (88, 8872), MG m g) (fun _ => True) from ?_)
  refine Ev.callV rfl rfl rfl hm ?_
  refine (show Ev (LT xs 6) 1051 (LO 0, [.int r, .int r], (88, 8872), hp) (fun _ => True) from ?_)
  refine Ev.step rfl rfl ?_
  refine Ev.same (r := r) ?_
  exact law_next xs (u := (88, 8872)) (hp := hp) (by decide) (by decide)
set_option maxRecDepth 100000 in
theorem op_settles (xs : Nat → Int32) {r : Int32} (hc : ∃ m g, Z_X10_settles [.ref 0] H0 = some (some (.int r), MG m g)) (hm : ∀ m g, ∃ hp, Z_X11_settles [.ref 69] (MG m g) = some (some (.int r), hp)) : Ev (LT xs 6) 1056 (LO 0, [], (88, 8872), H0) (fun _ => True) := by
  obtain ⟨m, g, hc⟩ := hc
  obtain ⟨hp, hm⟩ := hm m g
  refine Ev.step rfl rfl ?_
  refine (show Ev (LT xs 6) 1057 (LO 0, [.ref 0], (88, 8872), H0) (fun _ => True) from ?_)
  refine Ev.callV rfl rfl rfl hc ?_
  refine (show Ev (LT xs 6) 1060 (LO 0, [.int r], (88, 8872), MG m g) (fun _ => True) from ?_)
  refine Ev.step rfl rfl ?_
  refine (show Ev (LT xs 6) 1061 (LO 0, [.ref 69, .int r], (88, 8872), MG m g) (fun _ => True) from ?_)
  refine Ev.callV rfl rfl rfl hm ?_
  refine (show Ev (LT xs 6) 1064 (LO 0, [.int r, .int r], (88, 8872), hp) (fun _ => True) from ?_)
  refine Ev.step rfl rfl ?_
  refine Ev.same (r := r) ?_
  exact law_next xs (u := (88, 8872)) (hp := hp) (by decide) (by decide)
set_option maxRecDepth 100000 in
theorem op_hunger (xs : Nat → Int32) {r : Int32} (hc : ∃ m g, Z_X10_hunger [.ref 0, .int (xs 1), .int (xs 2), .int (xs 3)] H0 = some (some (.int r), MG m g)) (hm : ∀ m g, ∃ hp, Z_X11_hunger [.ref 69, .int (xs 1), .int (xs 2), .int (xs 3)] (MG m g) = some (some (.int r), hp)) : Ev (LT xs 6) 1069 (LO 0, [], (88, 8872), H0) (fun _ => True) := by
  obtain ⟨m, g, hc⟩ := hc
  obtain ⟨hp, hm⟩ := hm m g
  refine Ev.step rfl rfl ?_
  refine Ev.step rfl rfl ?_
  refine Ev.step rfl rfl ?_
  refine Ev.step rfl rfl ?_
  refine Ev.step rfl rfl ?_
  refine Ev.step rfl rfl ?_
  refine Ev.step rfl rfl ?_
  refine Ev.step rfl rfl ?_
  refine Ev.step rfl rfl ?_
  refine Ev.step rfl rfl ?_
  refine Ev.step rfl rfl ?_
  refine Ev.step rfl rfl ?_
  refine Ev.step rfl rfl ?_
  refine Ev.step rfl rfl ?_
  refine Ev.step rfl rfl ?_
  refine Ev.step rfl rfl ?_
  refine (show Ev (LT xs 6) 1088 (LO 0, [.int (xs 3), .int (xs 2), .int (xs 1), .ref 0], (88, 8872), H0) (fun _ => True) from ?_)
  refine Ev.callV rfl rfl rfl hc ?_
  refine (show Ev (LT xs 6) 1091 (LO 0, [.int r], (88, 8872), MG m g) (fun _ => True) from ?_)
  refine Ev.step rfl rfl ?_
  refine Ev.step rfl rfl ?_
  refine Ev.step rfl rfl ?_
  refine Ev.step rfl rfl ?_
  refine Ev.step rfl rfl ?_
  refine Ev.step rfl rfl ?_
  refine Ev.step rfl rfl ?_
  refine Ev.step rfl rfl ?_
  refine Ev.step rfl rfl ?_
  refine Ev.step rfl rfl ?_
  refine Ev.step rfl rfl ?_
  refine Ev.step rfl rfl ?_
  refine Ev.step rfl rfl ?_
  refine Ev.step rfl rfl ?_
  refine Ev.step rfl rfl ?_
  refine Ev.step rfl rfl ?_
  refine (show Ev (LT xs 6) 1110 (LO 0, [.int (xs 3), .int (xs 2), .int (xs 1), .ref 69, .int r], (88, 8872), MG m g) (fun _ => True) from ?_)
  refine Ev.callV rfl rfl rfl hm ?_
  refine (show Ev (LT xs 6) 1113 (LO 0, [.int r, .int r], (88, 8872), hp) (fun _ => True) from ?_)
  refine Ev.step rfl rfl ?_
  refine Ev.same (r := r) ?_
  exact law_next xs (u := (88, 8872)) (hp := hp) (by decide) (by decide)
set_option maxRecDepth 100000 in
theorem op_prices (xs : Nat → Int32) {r : Int32} (hc : ∃ m g, Z_X10_prices [.ref 0] H0 = some (some (.int r), MG m g)) (hm : ∀ m g, ∃ hp, Z_X11_prices [.ref 69] (MG m g) = some (some (.int r), hp)) : Ev (LT xs 6) 1118 (LO 0, [], (88, 8872), H0) (fun _ => True) := by
  obtain ⟨m, g, hc⟩ := hc
  obtain ⟨hp, hm⟩ := hm m g
  refine Ev.step rfl rfl ?_
  refine (show Ev (LT xs 6) 1119 (LO 0, [.ref 0], (88, 8872), H0) (fun _ => True) from ?_)
  refine Ev.callV rfl rfl rfl hc ?_
  refine (show Ev (LT xs 6) 1122 (LO 0, [.int r], (88, 8872), MG m g) (fun _ => True) from ?_)
  refine Ev.step rfl rfl ?_
  refine (show Ev (LT xs 6) 1123 (LO 0, [.ref 69, .int r], (88, 8872), MG m g) (fun _ => True) from ?_)
  refine Ev.callV rfl rfl rfl hm ?_
  refine (show Ev (LT xs 6) 1126 (LO 0, [.int r, .int r], (88, 8872), hp) (fun _ => True) from ?_)
  refine Ev.step rfl rfl ?_
  refine Ev.same (r := r) ?_
  exact law_next xs (u := (88, 8872)) (hp := hp) (by decide) (by decide)
set_option maxRecDepth 100000 in
theorem op_price (xs : Nat → Int32) {r : Int32} (hc : ∃ m g, Z_X10_price [.ref 0, .int (xs 1), .int (xs 2)] H0 = some (some (.int r), MG m g)) (hm : ∀ m g, ∃ hp, Z_X11_price [.ref 69, .int (xs 1), .int (xs 2)] (MG m g) = some (some (.int r), hp)) : Ev (LT xs 6) 1131 (LO 0, [], (88, 8872), H0) (fun _ => True) := by
  obtain ⟨m, g, hc⟩ := hc
  obtain ⟨hp, hm⟩ := hm m g
  refine Ev.step rfl rfl ?_
  refine Ev.step rfl rfl ?_
  refine Ev.step rfl rfl ?_
  refine Ev.step rfl rfl ?_
  refine Ev.step rfl rfl ?_
  refine Ev.step rfl rfl ?_
  refine Ev.step rfl rfl ?_
  refine Ev.step rfl rfl ?_
  refine Ev.step rfl rfl ?_
  refine Ev.step rfl rfl ?_
  refine Ev.step rfl rfl ?_
  refine (show Ev (LT xs 6) 1144 (LO 0, [.int (xs 2), .int (xs 1), .ref 0], (88, 8872), H0) (fun _ => True) from ?_)
  refine Ev.callV rfl rfl rfl hc ?_
  refine (show Ev (LT xs 6) 1147 (LO 0, [.int r], (88, 8872), MG m g) (fun _ => True) from ?_)
  refine Ev.step rfl rfl ?_
  refine Ev.step rfl rfl ?_
  refine Ev.step rfl rfl ?_
  refine Ev.step rfl rfl ?_
  refine Ev.step rfl rfl ?_
  refine Ev.step rfl rfl ?_
  refine Ev.step rfl rfl ?_
  refine Ev.step rfl rfl ?_
  refine Ev.step rfl rfl ?_
  refine Ev.step rfl rfl ?_
  refine Ev.step rfl rfl ?_
  refine (show Ev (LT xs 6) 1160 (LO 0, [.int (xs 2), .int (xs 1), .ref 69, .int r], (88, 8872), MG m g) (fun _ => True) from ?_)
  refine Ev.callV rfl rfl rfl hm ?_
  refine (show Ev (LT xs 6) 1163 (LO 0, [.int r, .int r], (88, 8872), hp) (fun _ => True) from ?_)
  refine Ev.step rfl rfl ?_
  refine Ev.same (r := r) ?_
  exact law_next xs (u := (88, 8872)) (hp := hp) (by decide) (by decide)
set_option maxRecDepth 100000 in
theorem op_dearest (xs : Nat → Int32) {r : Int32} (hc : ∃ m g, Z_X10_dearest [.ref 0] H0 = some (some (.int r), MG m g)) (hm : ∀ m g, ∃ hp, Z_X11_dearest [.ref 69] (MG m g) = some (some (.int r), hp)) : Ev (LT xs 6) 1168 (LO 0, [], (88, 8872), H0) (fun _ => True) := by
  obtain ⟨m, g, hc⟩ := hc
  obtain ⟨hp, hm⟩ := hm m g
  refine Ev.step rfl rfl ?_
  refine (show Ev (LT xs 6) 1169 (LO 0, [.ref 0], (88, 8872), H0) (fun _ => True) from ?_)
  refine Ev.callV rfl rfl rfl hc ?_
  refine (show Ev (LT xs 6) 1172 (LO 0, [.int r], (88, 8872), MG m g) (fun _ => True) from ?_)
  refine Ev.step rfl rfl ?_
  refine (show Ev (LT xs 6) 1173 (LO 0, [.ref 69, .int r], (88, 8872), MG m g) (fun _ => True) from ?_)
  refine Ev.callV rfl rfl rfl hm ?_
  refine (show Ev (LT xs 6) 1176 (LO 0, [.int r, .int r], (88, 8872), hp) (fun _ => True) from ?_)
  refine Ev.step rfl rfl ?_
  refine Ev.same (r := r) ?_
  exact law_next xs (u := (88, 8872)) (hp := hp) (by decide) (by decide)
set_option maxRecDepth 100000 in
theorem op_rats (xs : Nat → Int32) {r : Int32} (hc : ∃ m g, Z_X10_rats [.ref 0] H0 = some (some (.int r), MG m g)) (hm : ∀ m g, ∃ hp, Z_X11_rats [.ref 69] (MG m g) = some (some (.int r), hp)) : Ev (LT xs 6) 1181 (LO 0, [], (88, 8872), H0) (fun _ => True) := by
  obtain ⟨m, g, hc⟩ := hc
  obtain ⟨hp, hm⟩ := hm m g
  refine Ev.step rfl rfl ?_
  refine (show Ev (LT xs 6) 1182 (LO 0, [.ref 0], (88, 8872), H0) (fun _ => True) from ?_)
  refine Ev.callV rfl rfl rfl hc ?_
  refine (show Ev (LT xs 6) 1185 (LO 0, [.int r], (88, 8872), MG m g) (fun _ => True) from ?_)
  refine Ev.step rfl rfl ?_
  refine (show Ev (LT xs 6) 1186 (LO 0, [.ref 69, .int r], (88, 8872), MG m g) (fun _ => True) from ?_)
  refine Ev.callV rfl rfl rfl hm ?_
  refine (show Ev (LT xs 6) 1189 (LO 0, [.int r, .int r], (88, 8872), hp) (fun _ => True) from ?_)
  refine Ev.step rfl rfl ?_
  refine Ev.same (r := r) ?_
  exact law_next xs (u := (88, 8872)) (hp := hp) (by decide) (by decide)
set_option maxRecDepth 100000 in
theorem op_hoarded (xs : Nat → Int32) {r : Int32} (hc : ∃ m g, Z_X10_hoarded [.ref 0, .int (xs 1)] H0 = some (some (.int r), MG m g)) (hm : ∀ m g, ∃ hp, Z_X11_hoarded [.ref 69, .int (xs 1)] (MG m g) = some (some (.int r), hp)) : Ev (LT xs 6) 1194 (LO 0, [], (88, 8872), H0) (fun _ => True) := by
  obtain ⟨m, g, hc⟩ := hc
  obtain ⟨hp, hm⟩ := hm m g
  refine Ev.step rfl rfl ?_
  refine Ev.step rfl rfl ?_
  refine Ev.step rfl rfl ?_
  refine Ev.step rfl rfl ?_
  refine Ev.step rfl rfl ?_
  refine Ev.step rfl rfl ?_
  refine (show Ev (LT xs 6) 1201 (LO 0, [.int (xs 1), .ref 0], (88, 8872), H0) (fun _ => True) from ?_)
  refine Ev.callV rfl rfl rfl hc ?_
  refine (show Ev (LT xs 6) 1204 (LO 0, [.int r], (88, 8872), MG m g) (fun _ => True) from ?_)
  refine Ev.step rfl rfl ?_
  refine Ev.step rfl rfl ?_
  refine Ev.step rfl rfl ?_
  refine Ev.step rfl rfl ?_
  refine Ev.step rfl rfl ?_
  refine Ev.step rfl rfl ?_
  refine (show Ev (LT xs 6) 1211 (LO 0, [.int (xs 1), .ref 69, .int r], (88, 8872), MG m g) (fun _ => True) from ?_)
  refine Ev.callV rfl rfl rfl hm ?_
  refine (show Ev (LT xs 6) 1214 (LO 0, [.int r, .int r], (88, 8872), hp) (fun _ => True) from ?_)
  refine Ev.step rfl rfl ?_
  refine Ev.same (r := r) ?_
  exact law_next xs (u := (88, 8872)) (hp := hp) (by decide) (by decide)
set_option maxRecDepth 100000 in
theorem op_drawn (xs : Nat → Int32) {r : Int32} (hc : ∃ m g, Z_X10_drawn [.ref 0, .int (xs 1), .int (xs 2)] H0 = some (some (.int r), MG m g)) (hm : ∀ m g, ∃ hp, Z_X11_drawn [.ref 69, .int (xs 1), .int (xs 2)] (MG m g) = some (some (.int r), hp)) : Ev (LT xs 6) 1219 (LO 0, [], (88, 8872), H0) (fun _ => True) := by
  obtain ⟨m, g, hc⟩ := hc
  obtain ⟨hp, hm⟩ := hm m g
  refine Ev.step rfl rfl ?_
  refine Ev.step rfl rfl ?_
  refine Ev.step rfl rfl ?_
  refine Ev.step rfl rfl ?_
  refine Ev.step rfl rfl ?_
  refine Ev.step rfl rfl ?_
  refine Ev.step rfl rfl ?_
  refine Ev.step rfl rfl ?_
  refine Ev.step rfl rfl ?_
  refine Ev.step rfl rfl ?_
  refine Ev.step rfl rfl ?_
  refine (show Ev (LT xs 6) 1232 (LO 0, [.int (xs 2), .int (xs 1), .ref 0], (88, 8872), H0) (fun _ => True) from ?_)
  refine Ev.callV rfl rfl rfl hc ?_
  refine (show Ev (LT xs 6) 1235 (LO 0, [.int r], (96, 9010), MG m g) (fun _ => True) from ?_)
  refine Ev.step rfl rfl ?_
  refine Ev.step rfl rfl ?_
  refine Ev.step rfl rfl ?_
  refine Ev.step rfl rfl ?_
  refine Ev.step rfl rfl ?_
  refine Ev.step rfl rfl ?_
  refine Ev.step rfl rfl ?_
  refine Ev.step rfl rfl ?_
  refine Ev.step rfl rfl ?_
  refine Ev.step rfl rfl ?_
  refine Ev.step rfl rfl ?_
  refine (show Ev (LT xs 6) 1248 (LO 0, [.int (xs 2), .int (xs 1), .ref 69, .int r], (96, 9010), MG m g) (fun _ => True) from ?_)
  refine Ev.callV rfl rfl rfl hm ?_
  refine (show Ev (LT xs 6) 1251 (LO 0, [.int r, .int r], (96, 9010), hp) (fun _ => True) from ?_)
  refine Ev.step rfl rfl ?_
  refine Ev.same (r := r) ?_
  exact law_next xs (u := (96, 9010)) (hp := hp) (by decide) (by decide)
set_option maxRecDepth 100000 in
theorem op_odds (xs : Nat → Int32) {r : Int32} (hc : ∃ m g, Z_X10_odds [.ref 0, .int (xs 1), .int (xs 2), .int (xs 3)] H0 = some (some (.int r), MG m g)) (hm : ∀ m g, ∃ hp, Z_X11_odds [.ref 69, .int (xs 1), .int (xs 2), .int (xs 3)] (MG m g) = some (some (.int r), hp)) : Ev (LT xs 6) 1256 (LO 0, [], (88, 8872), H0) (fun _ => True) := by
  obtain ⟨m, g, hc⟩ := hc
  obtain ⟨hp, hm⟩ := hm m g
  refine Ev.step rfl rfl ?_
  refine Ev.step rfl rfl ?_
  refine Ev.step rfl rfl ?_
  refine Ev.step rfl rfl ?_
  refine Ev.step rfl rfl ?_
  refine Ev.step rfl rfl ?_
  refine Ev.step rfl rfl ?_
  refine Ev.step rfl rfl ?_
  refine Ev.step rfl rfl ?_
  refine Ev.step rfl rfl ?_
  refine Ev.step rfl rfl ?_
  refine Ev.step rfl rfl ?_
  refine Ev.step rfl rfl ?_
  refine Ev.step rfl rfl ?_
  refine Ev.step rfl rfl ?_
  refine Ev.step rfl rfl ?_
  refine (show Ev (LT xs 6) 1275 (LO 0, [.int (xs 3), .int (xs 2), .int (xs 1), .ref 0], (88, 8872), H0) (fun _ => True) from ?_)
  refine Ev.callV rfl rfl rfl hc ?_
  refine (show Ev (LT xs 6) 1278 (LO 0, [.int r], (88, 8872), MG m g) (fun _ => True) from ?_)
  refine Ev.step rfl rfl ?_
  refine Ev.step rfl rfl ?_
  refine Ev.step rfl rfl ?_
  refine Ev.step rfl rfl ?_
  refine Ev.step rfl rfl ?_
  refine Ev.step rfl rfl ?_
  refine Ev.step rfl rfl ?_
  refine Ev.step rfl rfl ?_
  refine Ev.step rfl rfl ?_
  refine Ev.step rfl rfl ?_
  refine Ev.step rfl rfl ?_
  refine Ev.step rfl rfl ?_
  refine Ev.step rfl rfl ?_
  refine Ev.step rfl rfl ?_
  refine Ev.step rfl rfl ?_
  refine Ev.step rfl rfl ?_
  refine (show Ev (LT xs 6) 1297 (LO 0, [.int (xs 3), .int (xs 2), .int (xs 1), .ref 69, .int r], (88, 8872), MG m g) (fun _ => True) from ?_)
  refine Ev.callV rfl rfl rfl hm ?_
  refine (show Ev (LT xs 6) 1300 (LO 0, [.int r, .int r], (88, 8872), hp) (fun _ => True) from ?_)
  refine Ev.step rfl rfl ?_
  refine Ev.same (r := r) ?_
  exact law_next xs (u := (88, 8872)) (hp := hp) (by decide) (by decide)
set_option maxRecDepth 100000 in
theorem op_log (xs : Nat → Int32) {r : Int32} (hc : ∃ m g, Z_X10_log [.ref 0, .int (xs 1)] H0 = some (some (.int r), MG m g)) (hm : ∀ m g, ∃ hp, Z_X11_log [.ref 69, .int (xs 1)] (MG m g) = some (some (.int r), hp)) : Ev (LT xs 6) 1305 (LO 0, [], (88, 8872), H0) (fun _ => True) := by
  obtain ⟨m, g, hc⟩ := hc
  obtain ⟨hp, hm⟩ := hm m g
  refine Ev.step rfl rfl ?_
  refine Ev.step rfl rfl ?_
  refine Ev.step rfl rfl ?_
  refine Ev.step rfl rfl ?_
  refine Ev.step rfl rfl ?_
  refine Ev.step rfl rfl ?_
  refine (show Ev (LT xs 6) 1312 (LO 0, [.int (xs 1), .ref 0], (88, 8872), H0) (fun _ => True) from ?_)
  refine Ev.callV rfl rfl rfl hc ?_
  refine (show Ev (LT xs 6) 1315 (LO 0, [.int r], (96, 9010), MG m g) (fun _ => True) from ?_)
  refine Ev.step rfl rfl ?_
  refine Ev.step rfl rfl ?_
  refine Ev.step rfl rfl ?_
  refine Ev.step rfl rfl ?_
  refine Ev.step rfl rfl ?_
  refine Ev.step rfl rfl ?_
  refine (show Ev (LT xs 6) 1322 (LO 0, [.int (xs 1), .ref 69, .int r], (96, 9010), MG m g) (fun _ => True) from ?_)
  refine Ev.callV rfl rfl rfl hm ?_
  refine (show Ev (LT xs 6) 1325 (LO 0, [.int r, .int r], (96, 9010), hp) (fun _ => True) from ?_)
  refine Ev.step rfl rfl ?_
  refine Ev.same (r := r) ?_
  exact law_next xs (u := (96, 9010)) (hp := hp) (by decide) (by decide)
set_option maxRecDepth 100000 in
theorem op_logged (xs : Nat → Int32) {r : Int32} (hc : ∃ m g, Z_X10_logged [.ref 0, .int (xs 1)] H0 = some (some (.int r), MG m g)) (hm : ∀ m g, ∃ hp, Z_X11_logged [.ref 69, .int (xs 1)] (MG m g) = some (some (.int r), hp)) : Ev (LT xs 6) 1330 (LO 0, [], (88, 8872), H0) (fun _ => True) := by
  obtain ⟨m, g, hc⟩ := hc
  obtain ⟨hp, hm⟩ := hm m g
  refine Ev.step rfl rfl ?_
  refine Ev.step rfl rfl ?_
  refine Ev.step rfl rfl ?_
  refine Ev.step rfl rfl ?_
  refine Ev.step rfl rfl ?_
  refine Ev.step rfl rfl ?_
  refine (show Ev (LT xs 6) 1337 (LO 0, [.int (xs 1), .ref 0], (88, 8872), H0) (fun _ => True) from ?_)
  refine Ev.callV rfl rfl rfl hc ?_
  refine (show Ev (LT xs 6) 1340 (LO 0, [.int r], (88, 8872), MG m g) (fun _ => True) from ?_)
  refine Ev.step rfl rfl ?_
  refine Ev.step rfl rfl ?_
  refine Ev.step rfl rfl ?_
  refine Ev.step rfl rfl ?_
  refine Ev.step rfl rfl ?_
  refine Ev.step rfl rfl ?_
  refine (show Ev (LT xs 6) 1347 (LO 0, [.int (xs 1), .ref 69, .int r], (88, 8872), MG m g) (fun _ => True) from ?_)
  refine Ev.callV rfl rfl rfl hm ?_
  refine (show Ev (LT xs 6) 1350 (LO 0, [.int r, .int r], (88, 8872), hp) (fun _ => True) from ?_)
  refine Ev.step rfl rfl ?_
  refine Ev.same (r := r) ?_
  exact law_next xs (u := (88, 8872)) (hp := hp) (by decide) (by decide)
set_option maxRecDepth 100000 in
theorem op_sentence (xs : Nat → Int32) {r : Int32} (hc : ∃ m g, Z_X10_sentence [.ref 0] H0 = some (some (.int r), MG m g)) (hm : ∀ m g, ∃ hp, Z_X11_sentence [.ref 69] (MG m g) = some (some (.int r), hp)) : Ev (LT xs 6) 1355 (LO 0, [], (88, 8872), H0) (fun _ => True) := by
  obtain ⟨m, g, hc⟩ := hc
  obtain ⟨hp, hm⟩ := hm m g
  refine Ev.step rfl rfl ?_
  refine (show Ev (LT xs 6) 1356 (LO 0, [.ref 0], (88, 8872), H0) (fun _ => True) from ?_)
  refine Ev.callV rfl rfl rfl hc ?_
  refine (show Ev (LT xs 6) 1359 (LO 0, [.int r], (88, 8872), MG m g) (fun _ => True) from ?_)
  refine Ev.step rfl rfl ?_
  refine (show Ev (LT xs 6) 1360 (LO 0, [.ref 69, .int r], (88, 8872), MG m g) (fun _ => True) from ?_)
  refine Ev.callV rfl rfl rfl hm ?_
  refine (show Ev (LT xs 6) 1363 (LO 0, [.int r, .int r], (88, 8872), hp) (fun _ => True) from ?_)
  refine Ev.step rfl rfl ?_
  refine Ev.same (r := r) ?_
  exact law_next xs (u := (88, 8872)) (hp := hp) (by decide) (by decide)
set_option maxRecDepth 100000 in
theorem op_said (xs : Nat → Int32) {r : Int32} (hc : ∃ m g, Z_X10_said [.ref 0, .int (xs 1)] H0 = some (some (.int r), MG m g)) (hm : ∀ m g, ∃ hp, Z_X11_said [.ref 69, .int (xs 1)] (MG m g) = some (some (.int r), hp)) : Ev (LT xs 6) 1368 (LO 0, [], (88, 8872), H0) (fun _ => True) := by
  obtain ⟨m, g, hc⟩ := hc
  obtain ⟨hp, hm⟩ := hm m g
  refine Ev.step rfl rfl ?_
  refine Ev.step rfl rfl ?_
  refine Ev.step rfl rfl ?_
  refine Ev.step rfl rfl ?_
  refine Ev.step rfl rfl ?_
  refine Ev.step rfl rfl ?_
  refine (show Ev (LT xs 6) 1375 (LO 0, [.int (xs 1), .ref 0], (88, 8872), H0) (fun _ => True) from ?_)
  refine Ev.callV rfl rfl rfl hc ?_
  refine (show Ev (LT xs 6) 1378 (LO 0, [.int r], (88, 8872), MG m g) (fun _ => True) from ?_)
  refine Ev.step rfl rfl ?_
  refine Ev.step rfl rfl ?_
  refine Ev.step rfl rfl ?_
  refine Ev.step rfl rfl ?_
  refine Ev.step rfl rfl ?_
  refine Ev.step rfl rfl ?_
  refine (show Ev (LT xs 6) 1385 (LO 0, [.int (xs 1), .ref 69, .int r], (88, 8872), MG m g) (fun _ => True) from ?_)
  refine Ev.callV rfl rfl rfl hm ?_
  refine (show Ev (LT xs 6) 1388 (LO 0, [.int r, .int r], (88, 8872), hp) (fun _ => True) from ?_)
  refine Ev.step rfl rfl ?_
  refine Ev.same (r := r) ?_
  exact law_next xs (u := (88, 8872)) (hp := hp) (by decide) (by decide)
set_option maxRecDepth 100000 in
theorem op_image (xs : Nat → Int32) {r : Int32} (hc : ∃ m g, Z_X10_image [.ref 0, .int (xs 1)] H0 = some (some (.int r), MG m g)) (hm : ∀ m g, ∃ hp, Z_X11_image [.ref 69, .int (xs 1)] (MG m g) = some (some (.int r), hp)) : Ev (LT xs 6) 1393 (LO 0, [], (88, 8872), H0) (fun _ => True) := by
  obtain ⟨m, g, hc⟩ := hc
  obtain ⟨hp, hm⟩ := hm m g
  refine Ev.step rfl rfl ?_
  refine Ev.step rfl rfl ?_
  refine Ev.step rfl rfl ?_
  refine Ev.step rfl rfl ?_
  refine Ev.step rfl rfl ?_
  refine Ev.step rfl rfl ?_
  refine (show Ev (LT xs 6) 1400 (LO 0, [.int (xs 1), .ref 0], (88, 8872), H0) (fun _ => True) from ?_)
  refine Ev.callV rfl rfl rfl hc ?_
  refine (show Ev (LT xs 6) 1403 (LO 0, [.int r], (109, 9282), MG m g) (fun _ => True) from ?_)
  refine Ev.step rfl rfl ?_
  refine Ev.step rfl rfl ?_
  refine Ev.step rfl rfl ?_
  refine Ev.step rfl rfl ?_
  refine Ev.step rfl rfl ?_
  refine Ev.step rfl rfl ?_
  refine (show Ev (LT xs 6) 1410 (LO 0, [.int (xs 1), .ref 69, .int r], (109, 9282), MG m g) (fun _ => True) from ?_)
  refine Ev.callV rfl rfl rfl hm ?_
  refine (show Ev (LT xs 6) 1413 (LO 0, [.int r, .int r], (109, 9282), hp) (fun _ => True) from ?_)
  refine Ev.step rfl rfl ?_
  refine Ev.same (r := r) ?_
  exact law_next xs (u := (109, 9282)) (hp := hp) (by decide) (by decide)
set_option maxRecDepth 100000 in
theorem op_restore (xs : Nat → Int32) {r : Int32} (hc : ∃ m g, Z_X10_restore [.ref 0, .int (xs 1)] H0 = some (some (.int r), MG m g)) (hm : ∀ m g, ∃ hp, Z_X11_restore [.ref 69, .int (xs 1)] (MG m g) = some (some (.int r), hp)) : Ev (LT xs 6) 1418 (LO 0, [], (88, 8872), H0) (fun _ => True) := by
  obtain ⟨m, g, hc⟩ := hc
  obtain ⟨hp, hm⟩ := hm m g
  refine Ev.step rfl rfl ?_
  refine Ev.step rfl rfl ?_
  refine Ev.step rfl rfl ?_
  refine Ev.step rfl rfl ?_
  refine Ev.step rfl rfl ?_
  refine Ev.step rfl rfl ?_
  refine (show Ev (LT xs 6) 1425 (LO 0, [.int (xs 1), .ref 0], (88, 8872), H0) (fun _ => True) from ?_)
  refine Ev.callV rfl rfl rfl hc ?_
  refine (show Ev (LT xs 6) 1428 (LO 0, [.int r], (88, 8872), MG m g) (fun _ => True) from ?_)
  refine Ev.step rfl rfl ?_
  refine Ev.step rfl rfl ?_
  refine Ev.step rfl rfl ?_
  refine Ev.step rfl rfl ?_
  refine Ev.step rfl rfl ?_
  refine Ev.step rfl rfl ?_
  refine (show Ev (LT xs 6) 1435 (LO 0, [.int (xs 1), .ref 69, .int r], (88, 8872), MG m g) (fun _ => True) from ?_)
  refine Ev.callV rfl rfl rfl hm ?_
  refine (show Ev (LT xs 6) 1438 (LO 0, [.int r, .int r], (88, 8872), hp) (fun _ => True) from ?_)
  refine Ev.step rfl rfl ?_
  refine Ev.same (r := r) ?_
  exact law_next xs (u := (88, 8872)) (hp := hp) (by decide) (by decide)
set_option maxRecDepth 100000 in
theorem op_count (xs : Nat → Int32) {r : Int32} (hc : ∃ m g, Z_X10_count [.ref 0, .int (xs 1)] H0 = some (some (.int r), MG m g)) (hm : ∀ m g, ∃ hp, Z_X11_count [.ref 69, .int (xs 1)] (MG m g) = some (some (.int r), hp)) : Ev (LT xs 6) 1443 (LO 0, [], (88, 8872), H0) (fun _ => True) := by
  obtain ⟨m, g, hc⟩ := hc
  obtain ⟨hp, hm⟩ := hm m g
  refine Ev.step rfl rfl ?_
  refine Ev.step rfl rfl ?_
  refine Ev.step rfl rfl ?_
  refine Ev.step rfl rfl ?_
  refine Ev.step rfl rfl ?_
  refine Ev.step rfl rfl ?_
  refine (show Ev (LT xs 6) 1450 (LO 0, [.int (xs 1), .ref 0], (88, 8872), H0) (fun _ => True) from ?_)
  refine Ev.callV rfl rfl rfl hc ?_
  refine (show Ev (LT xs 6) 1453 (LO 0, [.int r], (88, 8872), MG m g) (fun _ => True) from ?_)
  refine Ev.step rfl rfl ?_
  refine Ev.step rfl rfl ?_
  refine Ev.step rfl rfl ?_
  refine Ev.step rfl rfl ?_
  refine Ev.step rfl rfl ?_
  refine Ev.step rfl rfl ?_
  refine (show Ev (LT xs 6) 1460 (LO 0, [.int (xs 1), .ref 69, .int r], (88, 8872), MG m g) (fun _ => True) from ?_)
  refine Ev.callV rfl rfl rfl hm ?_
  refine (show Ev (LT xs 6) 1463 (LO 0, [.int r, .int r], (88, 8872), hp) (fun _ => True) from ?_)
  refine Ev.step rfl rfl ?_
  refine Ev.same (r := r) ?_
  exact law_next xs (u := (88, 8872)) (hp := hp) (by decide) (by decide)
