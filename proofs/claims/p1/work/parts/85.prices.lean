/-! ===== prices ===== -/
set_option maxRecDepth 10000 in
set_option maxHeartbeats 2000000 in
theorem c_prices : ∃ m g, Z_X10_prices [.ref 0] H0 = some (some (.int 1), MG m g) := by
  refine cX3 (Nat.le_of_ble_eq_true rfl) ?_
  repeat refine Ev.step rfl rfl ?_
  exact Ev.ret rfl rfl ⟨rfl, rfl, fun k => rfl⟩
set_option maxRecDepth 10000 in
set_option maxHeartbeats 2000000 in
theorem m_prices (m : Nat) (g : Nat → ab_E) : ∃ hp, Z_X11_prices [.ref 69] (MG m g) = some (some (.int 1), hp) := by
  refine mX (Nat.le_of_ble_eq_true rfl) ?_
  iterate 11 refine Ev.step rfl rfl ?_
  refine (show Ev _ 17 ([some (.ref 69), some (.int 0), none, none, none], [], (0, 0), ab_up (MT m g) 69 (.inr (11, FSG 0 0 0))) _ from ?_)
  refine Ev.loop (N := 12) (S := fun i x => ([some (.ref 69), some (.int (Int32.ofNat i)), none, none, none], [], (0, 0), x)) (fun _ x => ∃ f, x = ab_up (ab_up (MT m g) 69 (.inr (11, FSG 0 0 0))) 80 (.inl (1, 12, .inl f))) ?_ ?_ _ ⟨fun _ => 0, ab_up_same rfl⟩
  · rintro i _ hi ⟨f, rfl⟩ ih
    refine Ev.step rfl rfl ?_
    refine Ev.step rfl rfl ?_
    refine Ev.step rfl rfl ?_
    refine Ev.br (fun hb => absurd (hb.symm.trans (i_ge hi (by decide))) (by decide)) (fun _ => ?_)
    refine Ev.step rfl rfl ?_
    refine Ev.step rfl rfl ?_
    refine Ev.step rfl rfl ?_
    refine Ev.step rfl rfl ?_
    refine Ev.ast (f := f) rfl (Nat.lt_of_lt_of_le (by decide) (Nat.le_add_left 88 m)) rfl (i_in hi (by omega)) ?_
    refine Ev.step rfl rfl ?_
    refine Ev.step rfl rfl ?_
    refine (show Ev _ 17 ([some (.ref 69), some (.int (Int32.ofNat i + 1)), none, none, none], [], (0, 0), ab_up (ab_up (ab_up (MT m g) 69 (.inr (11, FSG 0 0 0))) 80 (.inl (1, 12, .inl f))) 80 _) _ from ?_)
    rw [i_succ, ab_up_up]
    exact ih _ ⟨_, rfl⟩
  rintro _ ⟨f, rfl⟩
  repeat refine Ev.step rfl rfl ?_
  refine Ev.callVX rfl rfl rfl (m_tries (fs := FSG 0 0 0) (Nat.le_add_left 88 m) rfl rfl rfl rfl rfl) ?_
  rintro _ ⟨f', rfl⟩
  repeat refine Ev.step rfl rfl ?_
  refine Ev.callVX rfl rfl rfl (m_goesOn (u := 0) (q := 0) (n := m) (A := .inl (1, 133, .inl f')) (z := fun _ => 0) (b := 0) (c := 1) (by decide) ⟨rfl, ⟨0, rfl⟩, rfl, rfl, _, rfl, rfl, rfl, rfl, rfl, rfl, fun i => rfl⟩) (fun hp' hP => ?_)
  obtain ⟨hn, ⟨r, h69⟩, h78, -, s, h71, -, -, -, -, s122, -⟩ := hP
  refine Ev.step rfl rfl ?_
  refine Ev.hp (hp_eq hn h69 h71) ?_
  repeat refine Ev.step rfl rfl ?_
  refine Ev.callVX rfl rfl rfl (m_back (fs := FSG r 0 0) (s := s) (f := f') (Nat.le_add_left 88 m) rfl rfl rfl rfl h78) (fun hp'' _ => ?_)
  refine Ev.step rfl rfl ?_
  exact Ev.ret rfl rfl rfl
