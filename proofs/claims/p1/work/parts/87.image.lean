/-! ===== image ===== -/
set_option maxRecDepth 10000 in
set_option maxHeartbeats 4000000 in
theorem c_image_n {x : Int32} (h0 : x ≠ 0) (h1 : x ≠ 1) : ∃ m g, Z_X10_image [.ref 0, .int x] H0 = some (some (.int 0), MG m g) := by
  refine cX (Nat.le_of_ble_eq_true rfl) ?_
  refine Ev.step rfl rfl ?_
  refine Ev.step rfl rfl ?_
  refine Ev.br (fun hb => ?_) (fun hb => ?_)
  · refine Ev.step rfl rfl ?_
    exact Ev.ret rfl rfl rfl
  · refine Ev.step rfl rfl ?_
    refine Ev.step rfl rfl ?_
    refine Ev.step rfl rfl ?_
    refine Ev.br (fun hc => ((i_lt2 hb (of_decide_eq_true hc)).elim h0 h1).elim) (fun hc => ?_)
    refine Ev.step rfl rfl ?_
    exact Ev.ret rfl rfl rfl
set_option maxRecDepth 10000 in
set_option maxHeartbeats 4000000 in
theorem m_image_n {x : Int32} (h0 : x ≠ 0) (h1 : x ≠ 1) (m : Nat) (g : Nat → ab_E) : ∃ hp, Z_X11_image [.ref 69, .int x] (MG m g) = some (some (.int 0), hp) := by
  refine mX (Nat.le_of_ble_eq_true rfl) ?_
  repeat refine Ev.step rfl rfl ?_
  refine Ev.call rfl rfl (m_isIn0 (x := x) (a := 0) (b := 1) (fun a b => (i_01 a b).elim h0 h1)) ?_
  repeat refine Ev.step rfl rfl ?_
  exact Ev.ret rfl rfl rfl
set_option maxRecDepth 10000 in
set_option maxHeartbeats 4000000 in
theorem c_image_0 : ∃ m g, Z_X10_image [.ref 0, .int 0] H0 = some (some (.int 1), MG m g) := by
  refine cX2 (Nat.le_of_ble_eq_true rfl) ?_
  repeat refine Ev.step rfl rfl ?_
  refine Ev.ret rfl rfl ⟨rfl, 21, rfl, fun k => ?_⟩
  exact match k with
    | 0 => rfl
    | 1 => rfl
    | 2 => rfl
    | 3 => rfl
    | 4 => rfl
    | 5 => rfl
    | 6 => rfl
    | 7 => rfl
    | 8 => rfl
    | 9 => rfl
    | 10 => rfl
    | 11 => rfl
    | 12 => rfl
    | 13 => rfl
    | 14 => rfl
    | 15 => rfl
    | 16 => rfl
    | 17 => rfl
    | 18 => rfl
    | k + 19 => rfl
set_option maxRecDepth 10000 in
set_option maxHeartbeats 4000000 in
theorem c_image_1 : ∃ m g, Z_X10_image [.ref 0, .int 1] H0 = some (some (.int 1), MG m g) := by
  refine cX2 (Nat.le_of_ble_eq_true rfl) ?_
  repeat refine Ev.step rfl rfl ?_
  refine Ev.ret rfl rfl ⟨rfl, 21, rfl, fun k => ?_⟩
  exact match k with
    | 0 => rfl
    | 1 => rfl
    | 2 => rfl
    | 3 => rfl
    | 4 => rfl
    | 5 => rfl
    | 6 => rfl
    | 7 => rfl
    | 8 => rfl
    | 9 => rfl
    | 10 => rfl
    | 11 => rfl
    | 12 => rfl
    | 13 => rfl
    | 14 => rfl
    | 15 => rfl
    | 16 => rfl
    | 17 => rfl
    | 18 => rfl
    | k + 19 => rfl
set_option maxRecDepth 10000 in
set_option maxHeartbeats 4000000 in
theorem m_image_0 (m : Nat) (g : Nat → ab_E) : ∃ hp, Z_X11_image [.ref 69, .int 0] (MG m g) = some (some (.int 1), hp) := by
  refine mX (Nat.le_of_ble_eq_true rfl) ?_
  refine Ev.step rfl rfl ?_
  refine Ev.step rfl rfl ?_
  refine Ev.step rfl rfl ?_
  refine Ev.step rfl rfl ?_
  refine Ev.step rfl rfl ?_
  refine Ev.step rfl rfl ?_
  refine Ev.step rfl rfl ?_
  refine Ev.step rfl rfl ?_
  refine Ev.step rfl rfl ?_
  refine Ev.step rfl rfl ?_
  refine (show Ev _ 18 ([some (.ref 69), some (.int 0), some (.int 0)], [], (0, 0), MT m g) _ from ?_)
  refine Ev.loop (N := 434) (S := fun i x => ([some (.ref 69), some (.int 0), some (.int (Int32.ofNat i))], [], (0, 0), x)) (fun _ x => ∃ f, x = ab_up (MT m g) 84 (.inl (1, 868, .inl f))) ?_ ?_ _ ⟨fun _ => 0, ab_up_same rfl⟩
  · rintro i _ hi ⟨f, rfl⟩ ih
    refine Ev.step rfl rfl ?_
    refine Ev.step rfl rfl ?_
    refine Ev.step rfl rfl ?_
    refine Ev.br (fun hb => absurd (hb.symm.trans (i_ge hi (by decide))) (by decide)) (fun _ => ?_)
    refine Ev.step rfl rfl ?_
    refine Ev.step rfl rfl ?_
    refine Ev.step rfl rfl ?_
    refine Ev.step rfl rfl ?_
    refine Ev.step rfl rfl ?_
    refine Ev.step rfl rfl ?_
    refine Ev.step rfl rfl ?_
    refine Ev.step rfl rfl ?_
    refine Ev.step rfl rfl ?_
    refine Ev.step rfl rfl ?_
    refine Ev.ald (f := upd (fun _ => 0) 2 10) rfl (Nat.lt_of_lt_of_le (by decide) (Nat.le_add_left 88 m)) rfl (i_in hi (by omega)) ?_
    refine Ev.ast (f := f) rfl (Nat.lt_of_lt_of_le (by decide) (Nat.le_add_left 88 m)) rfl (i_in2 (a := 434) (k := 0) (by omega) (by omega)) ?_
    refine Ev.step rfl rfl ?_
    refine Ev.step rfl rfl ?_
    refine (show Ev _ 18 ([some (.ref 69), some (.int 0), some (.int (Int32.ofNat i + 1))], [], (0, 0), ab_up (ab_up (MT m g) 84 (.inl (1, 868, .inl f))) 84 _) _ from ?_)
    rw [i_succ, ab_up_up]
    exact ih _ ⟨_, rfl⟩
  · rintro _ ⟨f, rfl⟩
    refine Ev.step rfl rfl ?_
    refine Ev.step rfl rfl ?_
    refine Ev.step rfl rfl ?_
    refine Ev.step rfl rfl ?_
    refine Ev.step rfl rfl ?_
    refine (show Ev _ 51 ([some (.ref 69), some (.int 0), some (.int 0)], [], (0, 0), ab_up (MT m g) 84 (.inl (1, 868, .inl f))) _ from ?_)
    refine Ev.loop (N := 14) (S := fun i x => ([some (.ref 69), some (.int 0), some (.int (Int32.ofNat i))], [], (0, 0), x)) (fun _ x => ∃ f', x = ab_up (ab_up (MT m g) 84 (.inl (1, 868, .inl f))) 85 (.inl (2, 28, .inr (.inl f')))) ?_ ?_ _ ⟨fun _ => 0, ab_up_same rfl⟩
    · rintro i _ hi ⟨f', rfl⟩ ih
      refine Ev.step rfl rfl ?_
      refine Ev.step rfl rfl ?_
      refine Ev.step rfl rfl ?_
      refine Ev.br (fun hb => absurd (hb.symm.trans (i_ge hi (by decide))) (by decide)) (fun _ => ?_)
      refine Ev.step rfl rfl ?_
      refine Ev.step rfl rfl ?_
      refine Ev.step rfl rfl ?_
      refine Ev.step rfl rfl ?_
      refine Ev.step rfl rfl ?_
      refine Ev.step rfl rfl ?_
      refine Ev.step rfl rfl ?_
      refine Ev.step rfl rfl ?_
      refine Ev.step rfl rfl ?_
      refine Ev.step rfl rfl ?_
      refine Ev.lald (f := fun _ => 0) rfl (Nat.lt_of_lt_of_le (by decide) (Nat.le_add_left 88 m)) rfl (i_in (Nat.lt_trans hi (by decide)) (by omega)) ?_
      refine Ev.last (f := f') rfl (Nat.lt_of_lt_of_le (by decide) (Nat.le_add_left 88 m)) rfl (i_in2 (a := 14) (k := 0) (by omega) (by omega)) ?_
      refine Ev.step rfl rfl ?_
      refine Ev.step rfl rfl ?_
      refine (show Ev _ 51 ([some (.ref 69), some (.int 0), some (.int (Int32.ofNat i + 1))], [], (0, 0), ab_up (ab_up (ab_up (MT m g) 84 (.inl (1, 868, .inl f))) 85 (.inl (2, 28, .inr (.inl f')))) 85 _) _ from ?_)
      rw [i_succ, ab_up_up]
      exact ih _ ⟨_, rfl⟩
    · rintro _ ⟨f', rfl⟩
      repeat refine Ev.step rfl rfl ?_
      exact Ev.ret rfl rfl rfl
set_option maxRecDepth 10000 in
set_option maxHeartbeats 4000000 in
theorem m_image_1 (m : Nat) (g : Nat → ab_E) : ∃ hp, Z_X11_image [.ref 69, .int 1] (MG m g) = some (some (.int 1), hp) := by
  refine mX (Nat.le_of_ble_eq_true rfl) ?_
  refine Ev.step rfl rfl ?_
  refine Ev.step rfl rfl ?_
  refine Ev.step rfl rfl ?_
  refine Ev.step rfl rfl ?_
  refine Ev.step rfl rfl ?_
  refine Ev.step rfl rfl ?_
  refine Ev.step rfl rfl ?_
  refine Ev.step rfl rfl ?_
  refine Ev.step rfl rfl ?_
  refine Ev.step rfl rfl ?_
  refine (show Ev _ 18 ([some (.ref 69), some (.int 1), some (.int 0)], [], (0, 0), MT m g) _ from ?_)
  refine Ev.loop (N := 434) (S := fun i x => ([some (.ref 69), some (.int 1), some (.int (Int32.ofNat i))], [], (0, 0), x)) (fun _ x => ∃ f, x = ab_up (MT m g) 84 (.inl (1, 868, .inl f))) ?_ ?_ _ ⟨fun _ => 0, ab_up_same rfl⟩
  · rintro i _ hi ⟨f, rfl⟩ ih
    refine Ev.step rfl rfl ?_
    refine Ev.step rfl rfl ?_
    refine Ev.step rfl rfl ?_
    refine Ev.br (fun hb => absurd (hb.symm.trans (i_ge hi (by decide))) (by decide)) (fun _ => ?_)
    refine Ev.step rfl rfl ?_
    refine Ev.step rfl rfl ?_
    refine Ev.step rfl rfl ?_
    refine Ev.step rfl rfl ?_
    refine Ev.step rfl rfl ?_
    refine Ev.step rfl rfl ?_
    refine Ev.step rfl rfl ?_
    refine Ev.step rfl rfl ?_
    refine Ev.step rfl rfl ?_
    refine Ev.step rfl rfl ?_
    refine Ev.ald (f := upd (fun _ => 0) 2 10) rfl (Nat.lt_of_lt_of_le (by decide) (Nat.le_add_left 88 m)) rfl (i_in hi (by omega)) ?_
    refine Ev.ast (f := f) rfl (Nat.lt_of_lt_of_le (by decide) (Nat.le_add_left 88 m)) rfl (i_in2 (a := 434) (k := 1) (by omega) (by omega)) ?_
    refine Ev.step rfl rfl ?_
    refine Ev.step rfl rfl ?_
    refine (show Ev _ 18 ([some (.ref 69), some (.int 1), some (.int (Int32.ofNat i + 1))], [], (0, 0), ab_up (ab_up (MT m g) 84 (.inl (1, 868, .inl f))) 84 _) _ from ?_)
    rw [i_succ, ab_up_up]
    exact ih _ ⟨_, rfl⟩
  · rintro _ ⟨f, rfl⟩
    refine Ev.step rfl rfl ?_
    refine Ev.step rfl rfl ?_
    refine Ev.step rfl rfl ?_
    refine Ev.step rfl rfl ?_
    refine Ev.step rfl rfl ?_
    refine (show Ev _ 51 ([some (.ref 69), some (.int 1), some (.int 0)], [], (0, 0), ab_up (MT m g) 84 (.inl (1, 868, .inl f))) _ from ?_)
    refine Ev.loop (N := 14) (S := fun i x => ([some (.ref 69), some (.int 1), some (.int (Int32.ofNat i))], [], (0, 0), x)) (fun _ x => ∃ f', x = ab_up (ab_up (MT m g) 84 (.inl (1, 868, .inl f))) 85 (.inl (2, 28, .inr (.inl f')))) ?_ ?_ _ ⟨fun _ => 0, ab_up_same rfl⟩
    · rintro i _ hi ⟨f', rfl⟩ ih
      refine Ev.step rfl rfl ?_
      refine Ev.step rfl rfl ?_
      refine Ev.step rfl rfl ?_
      refine Ev.br (fun hb => absurd (hb.symm.trans (i_ge hi (by decide))) (by decide)) (fun _ => ?_)
      refine Ev.step rfl rfl ?_
      refine Ev.step rfl rfl ?_
      refine Ev.step rfl rfl ?_
      refine Ev.step rfl rfl ?_
      refine Ev.step rfl rfl ?_
      refine Ev.step rfl rfl ?_
      refine Ev.step rfl rfl ?_
      refine Ev.step rfl rfl ?_
      refine Ev.step rfl rfl ?_
      refine Ev.step rfl rfl ?_
      refine Ev.lald (f := fun _ => 0) rfl (Nat.lt_of_lt_of_le (by decide) (Nat.le_add_left 88 m)) rfl (i_in (Nat.lt_trans hi (by decide)) (by omega)) ?_
      refine Ev.last (f := f') rfl (Nat.lt_of_lt_of_le (by decide) (Nat.le_add_left 88 m)) rfl (i_in2 (a := 14) (k := 1) (by omega) (by omega)) ?_
      refine Ev.step rfl rfl ?_
      refine Ev.step rfl rfl ?_
      refine (show Ev _ 51 ([some (.ref 69), some (.int 1), some (.int (Int32.ofNat i + 1))], [], (0, 0), ab_up (ab_up (ab_up (MT m g) 84 (.inl (1, 868, .inl f))) 85 (.inl (2, 28, .inr (.inl f')))) 85 _) _ from ?_)
      rw [i_succ, ab_up_up]
      exact ih _ ⟨_, rfl⟩
    · rintro _ ⟨f', rfl⟩
      repeat refine Ev.step rfl rfl ?_
      exact Ev.ret rfl rfl rfl
