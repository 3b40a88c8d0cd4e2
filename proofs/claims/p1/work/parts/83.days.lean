/-! ===== days and loads ===== -/
theorem i_1le {c : Nat} (h1 : 1 ≤ c) (h2 : c ≤ 60) : (1 : Int32) ≤ Int32.ofNat c := by
  rw [Int32.le_iff_toInt_le, i_toInt (by omega)]
  show (1 : Int) ≤ c
  omega
theorem i_le60 {c : Nat} (h2 : c ≤ 60) : Int32.ofNat c ≤ (60 : Int32) := by
  rw [Int32.le_iff_toInt_le, i_toInt (by omega)]
  show (c : Int) ≤ 60
  omega
set_option maxRecDepth 10000 in
set_option maxHeartbeats 2000000 in
theorem c_days_n {x : Int32} (h : ¬ (1 ≤ x ∧ x ≤ 60)) : ∃ m g, Z_X10_days [.ref 0, .int x] H0 = some (some (.int (-1)), MG m g) := by
  refine cX (Nat.le_of_ble_eq_true rfl) ?_
  refine Ev.step rfl rfl ?_
  refine Ev.step rfl rfl ?_
  refine Ev.call rfl rfl (c_isWithin0 h) ?_
  repeat refine Ev.step rfl rfl ?_
  exact Ev.ret rfl rfl rfl
set_option maxRecDepth 10000 in
set_option maxHeartbeats 2000000 in
theorem m_days_n {x : Int32} (h : ¬ (1 ≤ x ∧ x ≤ 60)) (m : Nat) (g : Nat → ab_E) : ∃ hp, Z_X11_days [.ref 69, .int x] (MG m g) = some (some (.int (-1)), hp) := by
  refine mX (Nat.le_of_ble_eq_true rfl) ?_
  repeat refine Ev.step rfl rfl ?_
  refine Ev.call rfl rfl (m_isIn0 (x := x) (a := 1) (b := 60) (fun p q => h ⟨p, q⟩)) ?_
  repeat refine Ev.step rfl rfl ?_
  exact Ev.ret rfl rfl rfl
set_option maxRecDepth 10000 in
set_option maxHeartbeats 2000000 in
theorem c_loads_n {x : Int32} (h : ¬ (1 ≤ x ∧ x ≤ 60)) : ∃ m g, Z_X10_loads [.ref 0, .int x] H0 = some (some (.int (-1)), MG m g) := by
  refine cX (Nat.le_of_ble_eq_true rfl) ?_
  refine Ev.step rfl rfl ?_
  refine Ev.step rfl rfl ?_
  refine Ev.call rfl rfl (c_isWithin0 h) ?_
  repeat refine Ev.step rfl rfl ?_
  exact Ev.ret rfl rfl rfl
set_option maxRecDepth 10000 in
set_option maxHeartbeats 2000000 in
theorem m_loads_n {x : Int32} (h : ¬ (1 ≤ x ∧ x ≤ 60)) (m : Nat) (g : Nat → ab_E) : ∃ hp, Z_X11_loads [.ref 69, .int x] (MG m g) = some (some (.int (-1)), hp) := by
  refine mX (Nat.le_of_ble_eq_true rfl) ?_
  repeat refine Ev.step rfl rfl ?_
  refine Ev.call rfl rfl (m_isIn0 (x := x) (a := 1) (b := 60) (fun p q => h ⟨p, q⟩)) ?_
  repeat refine Ev.step rfl rfl ?_
  exact Ev.ret rfl rfl rfl
set_option maxRecDepth 10000 in
set_option maxHeartbeats 2000000 in
theorem c_days_c {c : Nat} (h1 : 1 ≤ c) (h2 : c ≤ 60) : ∃ m g, Z_X10_days [.ref 0, .int (Int32.ofNat c)] H0 = some (some (.int (Int32.ofNat c)), MG m g) := by
  refine cX2 (Nat.le_of_ble_eq_true rfl) ?_
  refine Ev.step rfl rfl ?_
  refine Ev.step rfl rfl ?_
  refine Ev.call rfl rfl (c_isWithin1 (i_1le h1 h2) (i_le60 h2)) ?_
  repeat refine Ev.step rfl rfl ?_
  refine Ev.callVX rfl rfl rfl (c_pass12 (n := 8) (c := c) (by omega) ⟨rfl, rfl, ⟨_, _, rfl⟩, ⟨_, rfl⟩, rfl, rfl, rfl, fun k => rfl⟩) (fun hp' hP => ?_)
  obtain ⟨hn, -, -, -, -, -, -, hk⟩ := hP
  refine Ev.ret rfl rfl ⟨rfl, 8, hn, fun k => ?_⟩
  exact match k with
    | 0 => (hk 0).trans rfl
    | 1 => (hk 1).trans rfl
    | 2 => (hk 2).trans rfl
    | 3 => (hk 3).trans rfl
    | 4 => (hk 4).trans rfl
    | 5 => (hk 5).trans rfl
    | 6 => (hk 6).trans rfl
    | 7 => (hk 7).trans rfl
    | 8 => (hk 8).trans rfl
    | 9 => (hk 9).trans rfl
    | 10 => (hk 10).trans rfl
    | 11 => (hk 11).trans rfl
    | 12 => (hk 12).trans rfl
    | 13 => (hk 13).trans rfl
    | 14 => (hk 14).trans rfl
    | 15 => (hk 15).trans rfl
    | 16 => (hk 16).trans rfl
    | 17 => (hk 17).trans rfl
    | 18 => (hk 18).trans rfl
    | k + 19 => rfl
set_option maxRecDepth 10000 in
set_option maxHeartbeats 2000000 in
theorem m_days_c {c : Nat} (h1 : 1 ≤ c) (h2 : c ≤ 60) (m : Nat) (g : Nat → ab_E) : ∃ hp, Z_X11_days [.ref 69, .int (Int32.ofNat c)] (MG m g) = some (some (.int (Int32.ofNat c)), hp) := by
  refine mX (Nat.le_of_ble_eq_true rfl) ?_
  repeat refine Ev.step rfl rfl ?_
  refine Ev.call rfl rfl (m_isIn1 (a := 1) (b := 60) (i_1le h1 h2) (i_le60 h2)) ?_
  repeat refine Ev.step rfl rfl ?_
  refine Ev.callVX rfl rfl rfl (m_keep (fs := FS) (Nat.le_add_left 88 m) rfl rfl rfl rfl rfl rfl) ?_
  rintro _ ⟨f', rfl⟩
  repeat refine Ev.step rfl rfl ?_
  refine Ev.callVX rfl rfl rfl (m_goesOn (u := 1) (q := -1) (n := m) (z := fun _ => 0) (b := 0) (c := c) (by omega) ⟨rfl, ⟨0, rfl⟩, rfl, rfl, _, rfl, rfl, rfl, rfl, rfl, rfl, fun i => rfl⟩) (fun hp' hP => ?_)
  exact Ev.ret rfl rfl rfl
def T0 : ab_E := .inr (10, [.ref 1, .ref 3, .ref 7, .ref 10, .ref 12, .ref 20, .ref 28, .ref 36, .ref 40, .ref 41, .ref 42, .ref 43, .ref 44, .ref 45, .ref 53, .ref 61, .ref 65, .int 0, .int 0])
set_option maxRecDepth 10000 in
set_option maxHeartbeats 2000000 in
theorem c_loads_c {c : Nat} (h1 : 1 ≤ c) (h2 : c ≤ 60) : ∃ m g, Z_X10_loads [.ref 0, .int (Int32.ofNat c)] H0 = some (some (.int 0), MG m g) := by
  refine cX3 (Nat.le_of_ble_eq_true rfl) ?_
  refine Ev.step rfl rfl ?_
  refine Ev.step rfl rfl ?_
  refine Ev.call rfl rfl (c_isWithin1 (i_1le h1 h2) (i_le60 h2)) ?_
  repeat refine Ev.step rfl rfl ?_
  refine Ev.callVX rfl rfl rfl (c_pass20 (n := 0) (c := c) (by omega) ⟨rfl, rfl, ⟨_, _, rfl⟩, ⟨_, rfl⟩, rfl, rfl, rfl, rfl, rfl, rfl, rfl, rfl, rfl, fun k => rfl⟩) (fun hp' hP => ?_)
  obtain ⟨hn, -, -, ⟨e, ha⟩, k0, -, -, k12, -, -, -, -, -, hk⟩ := hP
  refine Ev.step rfl rfl ?_
  refine Ev.hp (hp_eq3 (a := 0) (b := 12) (c := 20) (x := T0) (y := T12 0 0) hn k0 k12 ha) ?_
  repeat refine Ev.step rfl rfl ?_
  exact Ev.ret rfl rfl ⟨rfl, rfl, fun k => (hk k).trans rfl⟩
set_option maxRecDepth 10000 in
set_option maxHeartbeats 2000000 in
theorem m_loads_c {c : Nat} (h1 : 1 ≤ c) (h2 : c ≤ 60) (m : Nat) (g : Nat → ab_E) : ∃ hp, Z_X11_loads [.ref 69, .int (Int32.ofNat c)] (MG m g) = some (some (.int 0), hp) := by
  refine mX (Nat.le_of_ble_eq_true rfl) ?_
  repeat refine Ev.step rfl rfl ?_
  refine Ev.call rfl rfl (m_isIn1 (a := 1) (b := 60) (i_1le h1 h2) (i_le60 h2)) ?_
  repeat refine Ev.step rfl rfl ?_
  refine Ev.callVX rfl rfl rfl (m_tries (fs := FS) (Nat.le_add_left 88 m) rfl rfl rfl rfl rfl) ?_
  rintro _ ⟨f', rfl⟩
  repeat refine Ev.step rfl rfl ?_
  refine Ev.callVX rfl rfl rfl (m_goesOn (u := 0) (q := -1) (n := m) (z := fun _ => 0) (b := 0) (c := c) (by omega) ⟨rfl, ⟨0, rfl⟩, rfl, rfl, _, rfl, rfl, rfl, rfl, rfl, rfl, fun i => rfl⟩) (fun hp' hP => ?_)
  obtain ⟨hn, ⟨r, h69⟩, h78, -, s, h71, -, -, -, -, s122, -⟩ := hP
  refine Ev.step rfl rfl ?_
  refine Ev.step rfl rfl ?_
  refine Ev.hp (hp_eq hn h69 h71) ?_
  repeat refine Ev.step rfl rfl ?_
  refine Ev.callVX rfl rfl rfl (m_back (fs := FSG r 0 (-1)) (s := s) (f := f') (Nat.le_add_left 88 m) rfl rfl rfl rfl h78) (fun hp'' _ => ?_)
  refine Ev.step rfl rfl ?_
  refine Ev.ret rfl rfl ?_
  show some (Value.int (s 122 - 0)) = some (Value.int 0)
  rw [s122]
  rfl
