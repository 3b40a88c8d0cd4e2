/-! ===== operations that answer -1 at once ===== -/
def FS : List Value := [.int 0, .ref 70, .int 0, .int 0, .int 0, .int 0, .ref 71, .ref 72, .ref 73, .ref 74, .ref 75, .int 0, .int 0, .int 0, .int 0, .int 0, .int 0, .long 0, .int 0, .int 0, .int 0, .ref 76, .int 0, .ref 77, .ref 78, .int 0, .ref 79, .ref 80, .int (-1), .int 0, .int 0, .ref 81, .int 0, .ref 82, .int 0, .int 0, .int 0, .int 0, .int 0, .ref 83, .ref 84, .ref 85, .ref 86]
def MT (m : Nat) (g : Nat → ab_E) : ab_H := ab_up (MG m g) 69 (.inr (11, FS))
theorem mX {L : List (Nat × ab_A)} {nL : Nat} {as : List Value} {hp0 : ab_H} {v : Value} (hl : (ab_ent as).length ≤ nL) (h : Ev (ab_T L) 0 (ab_en nL as, [], (0, 0), hp0) (fun o => o.1 = some v)) : ∃ hp, ab_X (ab_T L) nL as hp0 = some (some v, hp) := by
  obtain ⟨⟨o1, o2⟩, h1, h2⟩ := ab_X_ev hl h
  cases h2
  exact ⟨o2, h1⟩
theorem cX {L : List (Nat × ab_A)} {nL : Nat} {as : List Value} {v : Value} (hl : (ab_ent as).length ≤ nL) (h : Ev (ab_T L) 0 (ab_en nL as, [], (0, 0), H0) (fun o => o = (some v, H0))) : ∃ m g, ab_X (ab_T L) nL as H0 = some (some v, MG m g) :=
  ⟨0, FL 88, by rw [← H0_MG]; exact ab_X_eq hl h⟩
theorem m_isIn0 {x a b : Int32} {hp : ab_H} (h : a ≤ x → x ≤ b → False) : Z_X11_isIn [.int x, .int a, .int b] hp = some (some (.int 0), hp) := by
  refine Rn.of rfl ?_
  refine Rn.step rfl rfl ?_
  refine Rn.step rfl rfl ?_
  refine Rn.step rfl rfl ?_
  refine Rn.br (fun hb => ?_) (fun hb => ?_)
  · refine Rn.step rfl rfl ?_
    exact Rn.ret rfl rfl
  · refine Rn.step rfl rfl ?_
    refine Rn.step rfl rfl ?_
    refine Rn.step rfl rfl ?_
    refine Rn.br (fun hc => ?_) (fun hc => (h (Int32.not_lt.mp (of_decide_eq_false hb)) (Int32.not_lt.mp (of_decide_eq_false hc))).elim)
    refine Rn.step rfl rfl ?_
    exact Rn.ret rfl rfl
theorem i_no {x : Int32} (h : 0 ≤ x) (h' : x ≤ -1) : False := absurd (Int32.le_trans h h') (by decide)
set_option maxRecDepth 10000 in
theorem m_isGood (x : Int32) (m : Nat) (g : Nat → ab_E) : Z_X11_isGood [.ref 69, .int x] (MT m g) = some (some (.int 0), MT m g) := by
  refine Rn.of rfl ?_
  refine Rn.step rfl rfl ?_
  refine Rn.step rfl rfl ?_
  refine Rn.step rfl rfl ?_
  refine Rn.step rfl rfl ?_
  refine Rn.step rfl rfl ?_
  refine Rn.step rfl rfl ?_
  refine Rn.step rfl rfl ?_
  refine Rn.step rfl rfl ?_
  refine Rn.call rfl rfl (m_isIn0 (x := x) (a := 0) (b := -1) i_no) ?_
  exact Rn.ret rfl rfl
set_option maxRecDepth 10000 in
theorem m_isMan (x : Int32) (m : Nat) (g : Nat → ab_E) : Z_X11_isMan [.ref 69, .int x] (MT m g) = some (some (.int 0), MT m g) := by
  refine Rn.of rfl ?_
  refine Rn.step rfl rfl ?_
  refine Rn.step rfl rfl ?_
  refine Rn.step rfl rfl ?_
  refine Rn.step rfl rfl ?_
  refine Rn.step rfl rfl ?_
  refine Rn.step rfl rfl ?_
  refine Rn.step rfl rfl ?_
  refine Rn.step rfl rfl ?_
  refine Rn.call rfl rfl (m_isIn0 (x := x) (a := 0) (b := -1) i_no) ?_
  exact Rn.ret rfl rfl
set_option maxRecDepth 10000 in
theorem m_isPlace (x y : Int32) (m : Nat) (g : Nat → ab_E) : Z_X11_isPlace [.ref 69, .int x, .int y] (MT m g) = some (some (.int 0), MT m g) := by
  refine Rn.of rfl ?_
  refine Rn.step rfl rfl ?_
  refine Rn.step rfl rfl ?_
  refine Rn.callV rfl rfl rfl (m_isGood x m g) ?_
  refine Rn.step rfl rfl ?_
  refine Rn.step rfl rfl ?_
  exact Rn.ret rfl rfl
theorem c_areLivingTwo (x y : Int32) : Z_X10_areLivingTwo [.ref 0, .int x, .int y] H0 = some (some (.int 0), H0) := by
  refine Rn.of rfl ?_
  refine Rn.step rfl rfl ?_
  refine Rn.step rfl rfl ?_
  refine Rn.callV rfl rfl rfl (c_isMan x) ?_
  refine Rn.step rfl rfl ?_
  refine Rn.step rfl rfl ?_
  exact Rn.ret rfl rfl
set_option maxRecDepth 10000 in
theorem c_fault : ∃ m g, Z_X10_fault [.ref 0] H0 = some (some (.int 0), MG m g) := by
  refine cX (Nat.le_of_ble_eq_true rfl) ?_
  refine Ev.step rfl rfl ?_
  refine Ev.step rfl rfl ?_
  exact Ev.ret rfl rfl rfl
set_option maxRecDepth 10000 in
theorem m_fault (m : Nat) (g : Nat → ab_E) : ∃ hp, Z_X11_fault [.ref 69] (MG m g) = some (some (.int 0), hp) := by
  refine mX (Nat.le_of_ble_eq_true rfl) ?_
  refine Ev.step rfl rfl ?_
  refine Ev.step rfl rfl ?_
  refine Ev.step rfl rfl ?_
  refine Ev.step rfl rfl ?_
  refine Ev.step rfl rfl ?_
  exact Ev.ret rfl rfl rfl
set_option maxRecDepth 10000 in
theorem c_good (x y z : Int32) : ∃ m g, Z_X10_good [.ref 0, .int x, .int y, .int z] H0 = some (some (.int (-1)), MG m g) := by
  refine cX (Nat.le_of_ble_eq_true rfl) ?_
  refine Ev.step rfl rfl ?_
  refine Ev.step rfl rfl ?_
  refine Ev.step rfl rfl ?_
  refine Ev.callV rfl rfl rfl (c_isSlot x y) ?_
  refine Ev.step rfl rfl ?_
  refine Ev.step rfl rfl ?_
  exact Ev.ret rfl rfl rfl
set_option maxRecDepth 10000 in
theorem m_good (x y z : Int32) (m : Nat) (g : Nat → ab_E) : ∃ hp, Z_X11_good [.ref 69, .int x, .int y, .int z] (MG m g) = some (some (.int (-1)), hp) := by
  refine mX (Nat.le_of_ble_eq_true rfl) ?_
  refine Ev.step rfl rfl ?_
  refine Ev.step rfl rfl ?_
  refine Ev.step rfl rfl ?_
  refine Ev.step rfl rfl ?_
  refine Ev.step rfl rfl ?_
  refine Ev.step rfl rfl ?_
  refine Ev.callV rfl rfl rfl (m_isPlace x y m g) ?_
  refine Ev.step rfl rfl ?_
  refine Ev.step rfl rfl ?_
  exact Ev.ret rfl rfl rfl
