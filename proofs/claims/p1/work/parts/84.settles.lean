/-! ===== settles ===== -/
theorem upd_z {f : Nat → Int32} {a : Nat} {v : Int32} (hf : ∀ j, f j = 0) (hv : v = 0) : ∀ j, upd f a v j = 0 := by
  intro j
  show (if j = a then v else f j) = 0
  by_cases h : j = a
  · rw [if_pos h, hv]
  · rw [if_neg h, hf j]
theorem cpy_z {f g : Nat → Int32} {a b n : Nat} (hf : ∀ j, f j = 0) (hg : ∀ j, g j = 0) : ∀ j, va_cpy f g a b n j = 0 := by
  intro j
  show (if b ≤ j ∧ j < b + n then f (a + (j - b)) else g j) = 0
  by_cases h : b ≤ j ∧ j < b + n
  · rw [if_pos h, hf]
  · rw [if_neg h, hg]
theorem i_in2 {a k i n : Nat} (h : a * k + i < n) (hk : a * k + i < 2147483648) : ab_in (Int32.ofNat a * Int32.ofNat k + Int32.ofNat i) n = true := by
  rw [← Int32.ofNat_mul, i_add]
  exact i_in h hk
theorem i_in3 {a k b i n : Nat} (h : a * k + b + i < n) (hk : a * k + b + i < 2147483648) : ab_in (Int32.ofNat a * Int32.ofNat k + Int32.ofNat b + Int32.ofNat i) n = true := by
  rw [← Int32.ofNat_mul, i_add, i_add]
  exact i_in h hk
theorem md_rcv {u q : Int32} {n : Nat} {A B : ab_E} {z : Nat → Int32} {d : Int32} {hp : ab_H} (h : MD u q n A B z d hp) (as : List Value) : ab_rcv 11 (.ref 69 :: as) hp = true := by
  obtain ⟨h1, ⟨r, h69⟩, -⟩ := h
  simp [ab_rcv, h1, h69]
theorem z_at {s : Nat → Int32} (hz : ∀ i, s (i + 124) = (fun _ => 0 : Nat → Int32) i) {a i : Nat} (ha : 124 ≤ a) (hi : a + i < 1000) : ab_nar 1 (s (Int32.ofNat a + Int32.ofNat i).toNatClampNeg) = 0 := by
  show s (Int32.ofNat a + Int32.ofNat i).toNatClampNeg = 0
  rw [i_add, i_toNat (by omega), show a + i = (a - 124 + i) + 124 by omega]
  exact hz _
set_option maxRecDepth 10000 in
set_option maxHeartbeats 2000000 in
theorem m_lays {u q : Int32} {n : Nat} {A : ab_E} {d : Int32} {hp : ab_H} {f : Nat → Int32} {k : Nat} (hk : k < 3) (hf : ∀ j, f j = 0) (h : MD u q n A (.inl (1, 60, .inl f)) (fun _ => 0) d hp) : ∃ hp', Z_X11_lays [.ref 69, .int (Int32.ofNat k)] hp = some (none, hp') ∧ ∃ f', (∀ j, f' j = 0) ∧ MD u q n A (.inl (1, 60, .inl f')) (fun _ => 0) d hp' := by
  obtain ⟨h1, ⟨r, h69⟩, h78, h79, s, h71, s0, s1, s2, s120, s122, sz⟩ := h
  have l1 : 88 ≤ hp.1 := by omega
  refine xX (Nat.le_of_ble_eq_true rfl) ?_
  refine Ev.step rfl rfl ?_
  refine Ev.step rfl rfl ?_
  refine Ev.loop (N := 12) (S := fun i x => ([some (.ref 69), some (.int (Int32.ofNat k)), some (.int (Int32.ofNat i))], [], (0, 0), x)) (fun _ x => ∃ f, (∀ j, f j = 0) ∧ x = ab_up hp 79 (.inl (1, 60, .inl f))) ?_ ?_ hp ⟨f, hf, ab_up_same h79⟩
  · rintro i _ hi ⟨f, hf, rfl⟩ ih
    refine Ev.step rfl rfl ?_
    refine Ev.step rfl rfl ?_
    refine Ev.step rfl rfl ?_
    refine Ev.br (fun hb => absurd (hb.symm.trans (i_ge hi (by decide))) (by decide)) (fun _ => ?_)
    refine Ev.step rfl rfl ?_
    refine Ev.getf (fs := FSG r u q) rfl (Nat.lt_of_lt_of_le (by decide) l1) h69 rfl ?_
    refine Ev.step rfl rfl ?_
    refine Ev.step rfl rfl ?_
    refine Ev.step rfl rfl ?_
    refine Ev.step rfl rfl ?_
    refine Ev.step rfl rfl ?_
    refine Ev.step rfl rfl ?_
    refine Ev.getf (fs := FSG r u q) rfl (Nat.lt_of_lt_of_le (by decide) l1) h69 rfl ?_
    refine Ev.step rfl rfl ?_
    refine Ev.step rfl rfl ?_
    refine Ev.step rfl rfl ?_
    refine Ev.ald (f := s) rfl (Nat.lt_of_lt_of_le (by decide) l1) h71 (i_ina (a := 124) (by omega) (by omega)) ?_
    refine Ev.ast (f := f) rfl (Nat.lt_of_lt_of_le (by decide) l1) rfl (i_in2 (a := 20) (by omega) (by omega)) ?_
    refine Ev.step rfl rfl ?_
    refine Ev.step rfl rfl ?_
    refine (show Ev _ 2 ([some (.ref 69), some (.int (Int32.ofNat k)), some (.int (Int32.ofNat i + 1))], [], (0, 0), ab_up (ab_up hp 79 (.inl (1, 60, .inl f))) 79 _) _ from ?_)
    rw [i_succ, ab_up_up]
    exact ih _ ⟨_, upd_z hf (z_at sz (a := 124) (by omega) (by omega)), rfl⟩
  · rintro _ ⟨f, hf, rfl⟩
    refine Ev.step rfl rfl ?_
    refine Ev.step rfl rfl ?_
    refine Ev.step rfl rfl ?_
    refine Ev.step rfl rfl ?_
    refine Ev.step rfl rfl ?_
    refine Ev.loop (N := 8) (S := fun i x => ([some (.ref 69), some (.int (Int32.ofNat k)), some (.int (Int32.ofNat i))], [], (0, 0), x)) (fun _ x => ∃ f, (∀ j, f j = 0) ∧ x = ab_up hp 79 (.inl (1, 60, .inl f))) ?_ ?_ _ ⟨f, hf, rfl⟩
    · rintro i _ hi ⟨f, hf, rfl⟩ ih
      refine Ev.step rfl rfl ?_
      refine Ev.step rfl rfl ?_
      refine Ev.step rfl rfl ?_
      refine Ev.br (fun hb => absurd (hb.symm.trans (i_ge hi (by decide))) (by decide)) (fun _ => ?_)
      refine Ev.step rfl rfl ?_
      refine Ev.getf (fs := FSG r u q) rfl (Nat.lt_of_lt_of_le (by decide) l1) h69 rfl ?_
      refine Ev.step rfl rfl ?_
      refine Ev.step rfl rfl ?_
      refine Ev.step rfl rfl ?_
      refine Ev.step rfl rfl ?_
      refine Ev.step rfl rfl ?_
      refine Ev.step rfl rfl ?_
      refine Ev.step rfl rfl ?_
      refine Ev.step rfl rfl ?_
      refine Ev.getf (fs := FSG r u q) rfl (Nat.lt_of_lt_of_le (by decide) l1) h69 rfl ?_
      refine Ev.step rfl rfl ?_
      refine Ev.step rfl rfl ?_
      refine Ev.step rfl rfl ?_
      refine Ev.ald (f := s) rfl (Nat.lt_of_lt_of_le (by decide) l1) h71 (i_ina (a := 172) (by omega) (by omega)) ?_
      refine Ev.ast (f := f) rfl (Nat.lt_of_lt_of_le (by decide) l1) rfl (i_in3 (a := 20) (b := 12) (by omega) (by omega)) ?_
      refine Ev.step rfl rfl ?_
      refine Ev.step rfl rfl ?_
      refine (show Ev _ 36 ([some (.ref 69), some (.int (Int32.ofNat k)), some (.int (Int32.ofNat i + 1))], [], (0, 0), ab_up (ab_up hp 79 (.inl (1, 60, .inl f))) 79 _) _ from ?_)
      rw [i_succ, ab_up_up]
      exact ih _ ⟨_, upd_z hf (z_at sz (a := 172) (by omega) (by omega)), rfl⟩
    · rintro _ ⟨f, hf, rfl⟩
      refine Ev.step rfl rfl ?_
      refine Ev.step rfl rfl ?_
      refine Ev.step rfl rfl ?_
      exact Ev.ret rfl rfl ⟨rfl, f, hf, h1, ⟨r, h69⟩, h78, rfl, s, h71, s0, s1, s2, s120, s122, sz⟩
set_option maxRecDepth 10000 in
set_option maxHeartbeats 2000000 in
theorem m_areAlike {hp : ab_H} {fs : List Value} {f : Nat → Int32} (hf : ∀ j, f j = 0) (l1 : 88 ≤ hp.1) (h69 : hp.2 69 = .inr (11, fs)) (f26 : fs[26]? = some (.ref 79)) (h79 : hp.2 79 = .inl (1, 60, .inl f)) : Z_X11_areAlike [.ref 69, .int 2, .int 0] hp = some (some (.int 1), hp) := by
  refine ab_X_eq (Nat.le_of_ble_eq_true rfl) ?_
  refine Ev.step rfl rfl ?_
  refine Ev.step rfl rfl ?_
  refine Ev.loop (N := 20) (S := fun i x => ([some (.ref 69), some (.int 2), some (.int 0), some (.int (Int32.ofNat i))], [], (0, 0), x)) (fun _ x => x = hp) ?_ ?_ hp rfl
  · rintro i hp hi rfl ih
    refine Ev.step rfl rfl ?_
    refine Ev.step rfl rfl ?_
    refine Ev.step rfl rfl ?_
    refine Ev.br (fun hb => absurd (hb.symm.trans (i_ge hi (by decide))) (by decide)) (fun _ => ?_)
    refine Ev.step rfl rfl ?_
    refine Ev.getf (fs := fs) rfl (Nat.lt_of_lt_of_le (by decide) l1) h69 f26 ?_
    refine Ev.step rfl rfl ?_
    refine Ev.step rfl rfl ?_
    refine Ev.step rfl rfl ?_
    refine Ev.step rfl rfl ?_
    refine Ev.step rfl rfl ?_
    refine Ev.ald (f := f) rfl (Nat.lt_of_lt_of_le (by decide) l1) h79 (i_in2 (a := 20) (k := 2) (by omega) (by omega)) ?_
    refine Ev.step rfl rfl ?_
    refine Ev.getf (fs := fs) rfl (Nat.lt_of_lt_of_le (by decide) l1) h69 f26 ?_
    refine Ev.step rfl rfl ?_
    refine Ev.step rfl rfl ?_
    refine Ev.step rfl rfl ?_
    refine Ev.step rfl rfl ?_
    refine Ev.step rfl rfl ?_
    refine Ev.ald (f := f) rfl (Nat.lt_of_lt_of_le (by decide) l1) h79 (i_in2 (a := 20) (k := 0) (by omega) (by omega)) ?_
    refine Ev.step rfl rfl ?_
    refine Ev.br (fun _ => ?_) (fun hb => absurd hb (by rw [hf, hf]; decide))
    refine Ev.step rfl rfl ?_
    refine Ev.step rfl rfl ?_
    refine (show Ev _ 2 ([some (.ref 69), some (.int 2), some (.int 0), some (.int (Int32.ofNat i + 1))], [], (0, 0), _) _ from ?_)
    rw [i_succ]
    exact ih _ rfl
  · rintro hp rfl
    refine Ev.step rfl rfl ?_
    refine Ev.step rfl rfl ?_
    refine Ev.step rfl rfl ?_
    refine Ev.step rfl rfl ?_
    exact Ev.ret rfl rfl rfl
set_option maxRecDepth 10000 in
set_option maxHeartbeats 2000000 in
theorem m_settles (m : Nat) (g : Nat → ab_E) : ∃ hp, Z_X11_settles [.ref 69] (MG m g) = some (some (.int 0), hp) := by
  refine mX (Nat.le_of_ble_eq_true rfl) ?_
  repeat refine Ev.step rfl rfl ?_
  refine Ev.callVX rfl rfl rfl (m_tries (fs := FS) (Nat.le_add_left 88 m) rfl rfl rfl rfl rfl) ?_
  rintro _ ⟨f', rfl⟩
  iterate 13 refine Ev.step rfl rfl ?_
  refine (show Ev _ 28 ([some (.ref 69), some (.int (-1)), some (.int 0)], [.int (Int32.ofNat 0), .ref 69], (0, 0), _) _ from ?_)
  refine Ev.callVX rfl rfl rfl (m_lays (u := 0) (q := -1) (n := m) (A := .inl (1, 133, .inl f')) (d := Int32.ofNat 0) (f := fun _ => 0) (k := 0) (by decide) (fun _ => rfl) ⟨rfl, ⟨0, rfl⟩, rfl, rfl, _, rfl, rfl, rfl, rfl, rfl, rfl, fun i => rfl⟩) ?_
  rintro hp ⟨f1, hf1, hM⟩
  iterate 5 refine Ev.step rfl rfl ?_
  refine (show Ev _ 66 ([some (.ref 69), some (.int (-1)), some (.int 0)], [.int (Int32.ofNat 1), .ref 69], (0, 0), hp) _ from ?_)
  refine Ev.callVX rfl (md_rcv hM _) rfl (m_goesOn (b := 0) (c := 1) (by decide) hM) ?_
  intro hp hM
  iterate 3 refine Ev.step rfl rfl ?_
  iterate 9 refine Ev.step rfl rfl ?_
  refine (show Ev _ 28 ([some (.ref 69), some (.int (-1)), some (.int 1)], [.int (Int32.ofNat 1), .ref 69], (0, 0), hp) _ from ?_)
  refine Ev.callVX rfl (md_rcv hM _) rfl (m_lays (k := 1) (by decide) hf1 hM) ?_
  rintro hp ⟨f2, hf2, hM⟩
  iterate 5 refine Ev.step rfl rfl ?_
  refine (show Ev _ 66 ([some (.ref 69), some (.int (-1)), some (.int 1)], [.int (Int32.ofNat 1), .ref 69], (0, 0), hp) _ from ?_)
  refine Ev.callVX rfl (md_rcv hM _) rfl (m_goesOn (b := 1) (c := 1) (by decide) hM) ?_
  intro hp hM
  iterate 3 refine Ev.step rfl rfl ?_
  iterate 9 refine Ev.step rfl rfl ?_
  refine (show Ev _ 28 ([some (.ref 69), some (.int (-1)), some (.int 2)], [.int (Int32.ofNat 2), .ref 69], (0, 0), hp) _ from ?_)
  refine Ev.callVX rfl (md_rcv hM _) rfl (m_lays (k := 2) (by decide) hf2 hM) ?_
  rintro hp ⟨f3, hf3, hM⟩
  iterate 12 refine Ev.step rfl rfl ?_
  refine (show Ev _ 45 ([some (.ref 69), some (.int (-1)), some (.int 2)], [.int 0, .int 2, .ref 69], (0, 0), hp) _ from ?_)
  have hM' := hM
  obtain ⟨h1, ⟨r, h69⟩, h78, h79, s, h71, s0, s1, s2, s120, s122, sz⟩ := hM
  refine Ev.callV rfl (md_rcv hM' _) rfl (m_areAlike (fs := FSG r 0 (-1)) hf3 (by omega) h69 rfl h79) ?_
  rw [NS_eq s0 s1 s2 s120 s122] at h71
  refine (show Ev _ 48 ([some (.ref 69), some (.int (-1)), some (.int 2)], [.int 1], (0, 0), hp) _ from ?_)
  refine Ev.hp (hp_eq h1 h69 h71) ?_
  iterate 9 refine Ev.step rfl rfl ?_
  refine (show Ev _ 76 ([some (.ref 69), some (.int (Int32.ofNat (1 + 1) - 2)), some (.int 2)], [], (0, 0), ab_up (ab_up (m + 88, hp.2) 69 (.inr (11, FSG r 0 (-1)))) 71 (.inl (1, 434, .inl (NS s (Int32.ofNat (1 + 1)))))) _ from ?_)
  repeat refine Ev.step rfl rfl ?_
  refine Ev.callVX rfl rfl rfl (m_back (hp := ab_up (ab_up (m + 88, hp.2) 69 (.inr (11, FSG r 0 (-1)))) 71 (.inl (1, 434, .inl (NS s (Int32.ofNat (1 + 1)))))) (fs := FSG r 0 (-1)) (s := NS s (Int32.ofNat (1 + 1))) (f := f') (Nat.le_add_left 88 m) rfl rfl rfl rfl h78) (fun hp'' _ => ?_)
  refine Ev.step rfl rfl ?_
  exact Ev.ret rfl rfl rfl
set_option maxRecDepth 10000 in
set_option maxHeartbeats 2000000 in
theorem c_looks {hp : ab_H} {p q s t : Nat → Int32} {d e d' e' : Int32} (hpq : ∀ j, p j = q j) (hst : ∀ j, s j = t j) (l1 : 88 ≤ hp.1) (h20 : hp.2 20 = .inr (6, [.ref 21, .ref 22, .ref 23, .ref 24, .ref 25, .ref 26, .ref 27, .int d, .int e, .int 0])) (h28 : hp.2 28 = .inr (6, [.ref 29, .ref 30, .ref 31, .ref 32, .ref 33, .ref 34, .ref 35, .int d', .int e', .int 0])) (h21 : hp.2 21 = .inl (1, 12, .inl p)) (h29 : hp.2 29 = .inl (1, 12, .inl q)) (h25 : hp.2 25 = .inl (1, 8, .inl s)) (h33 : hp.2 33 = .inl (1, 8, .inl t)) : Z_X6_looksLike [.ref 20, .ref 28] hp = some (some (.int 1), hp) := by
  refine ab_X_eq (Nat.le_of_ble_eq_true rfl) ?_
  refine Ev.step rfl rfl ?_
  refine Ev.step rfl rfl ?_
  refine Ev.loop (N := 12) (S := fun i x => ([some (.ref 20), some (.ref 28), some (.int (Int32.ofNat i))], [], (0, 0), x)) (fun _ x => x = hp) ?_ ?_ hp rfl
  · rintro i hp hi rfl ih
    refine Ev.step rfl rfl ?_
    refine Ev.step rfl rfl ?_
    refine Ev.step rfl rfl ?_
    refine Ev.br (fun hb => absurd (hb.symm.trans (i_ge hi (by decide))) (by decide)) (fun _ => ?_)
    refine Ev.step rfl rfl ?_
    refine Ev.getf rfl (Nat.lt_of_lt_of_le (by decide) l1) h20 rfl ?_
    refine Ev.step rfl rfl ?_
    refine Ev.ald (f := p) rfl (Nat.lt_of_lt_of_le (by decide) l1) h21 (i_in hi (by omega)) ?_
    refine Ev.step rfl rfl ?_
    refine Ev.getf rfl (Nat.lt_of_lt_of_le (by decide) l1) h28 rfl ?_
    refine Ev.step rfl rfl ?_
    refine Ev.ald (f := q) rfl (Nat.lt_of_lt_of_le (by decide) l1) h29 (i_in hi (by omega)) ?_
    refine Ev.step rfl rfl ?_
    refine Ev.br (fun _ => ?_) (fun hb => absurd (hpq _) (of_decide_eq_false hb))
    refine Ev.step rfl rfl ?_
    refine Ev.step rfl rfl ?_
    refine (show Ev _ 2 ([some (.ref 20), some (.ref 28), some (.int (Int32.ofNat i + 1))], [], (0, 0), _) _ from ?_)
    rw [i_succ]
    exact ih _ rfl
  · rintro hp rfl
    refine Ev.step rfl rfl ?_
    refine Ev.step rfl rfl ?_
    refine Ev.step rfl rfl ?_
    refine Ev.step rfl rfl ?_
    refine Ev.step rfl rfl ?_
    refine Ev.loop (N := 8) (S := fun i x => ([some (.ref 20), some (.ref 28), some (.int (Int32.ofNat i))], [], (0, 0), x)) (fun _ x => x = hp) ?_ ?_ hp rfl
    · rintro i hp hi rfl ih
      refine Ev.step rfl rfl ?_
      refine Ev.step rfl rfl ?_
      refine Ev.step rfl rfl ?_
      refine Ev.br (fun hb => absurd (hb.symm.trans (i_ge hi (by decide))) (by decide)) (fun _ => ?_)
      refine Ev.step rfl rfl ?_
      refine Ev.getf rfl (Nat.lt_of_lt_of_le (by decide) l1) h20 rfl ?_
      refine Ev.step rfl rfl ?_
      refine Ev.ald (f := s) rfl (Nat.lt_of_lt_of_le (by decide) l1) h25 (i_in hi (by omega)) ?_
      refine Ev.step rfl rfl ?_
      refine Ev.getf rfl (Nat.lt_of_lt_of_le (by decide) l1) h28 rfl ?_
      refine Ev.step rfl rfl ?_
      refine Ev.ald (f := t) rfl (Nat.lt_of_lt_of_le (by decide) l1) h33 (i_in hi (by omega)) ?_
      refine Ev.step rfl rfl ?_
      refine Ev.br (fun _ => ?_) (fun hb => absurd (hst _) (of_decide_eq_false hb))
      refine Ev.step rfl rfl ?_
      refine Ev.step rfl rfl ?_
      refine (show Ev _ 33 ([some (.ref 20), some (.ref 28), some (.int (Int32.ofNat i + 1))], [], (0, 0), _) _ from ?_)
      rw [i_succ]
      exact ih _ rfl
    · rintro hp rfl
      refine Ev.step rfl rfl ?_
      refine Ev.step rfl rfl ?_
      refine Ev.step rfl rfl ?_
      refine Ev.step rfl rfl ?_
      exact Ev.ret rfl rfl rfl
set_option maxRecDepth 10000 in
set_option maxHeartbeats 2000000 in
theorem c_settles : ∃ m g, Z_X10_settles [.ref 0] H0 = some (some (.int 0), MG m g) := by
  refine cX3 (Nat.le_of_ble_eq_true rfl) ?_
  repeat refine Ev.step rfl rfl ?_
  refine Ev.callVX rfl rfl rfl (c_pass20 (n := 0) (c := 2) (by omega) ⟨rfl, rfl, ⟨_, _, rfl⟩, ⟨_, rfl⟩, rfl, rfl, rfl, rfl, rfl, rfl, rfl, rfl, rfl, fun k => rfl⟩) (fun hp hP => ?_)
  obtain ⟨hn, -, -, ⟨e, ha⟩, k0, -, -, -, k21, k25, k28, k29, k33, hk⟩ := hP
  refine Ev.step rfl rfl ?_
  refine Ev.step rfl rfl ?_
  refine Ev.step rfl rfl ?_
  refine Ev.step rfl rfl ?_
  refine Ev.step rfl rfl ?_
  refine Ev.step rfl rfl ?_
  refine Ev.step rfl rfl ?_
  refine (show Ev _ 53 ([some (.ref 0), some (.int 0)], [], (0, 0), hp) _ from ?_)
  have l1 : 88 ≤ hp.1 := by omega
  refine Ev.step rfl rfl ?_
  refine Ev.getf rfl (Nat.lt_of_lt_of_le (by decide) l1) k0 rfl ?_
  refine Ev.step rfl rfl ?_
  refine Ev.getf rfl (Nat.lt_of_lt_of_le (by decide) l1) k0 rfl ?_
  refine (show Ev _ 61 ([some (.ref 0), some (.int 0)], [.ref 28, .ref 20], (0, 0), hp) _ from ?_)
  refine Ev.callV rfl (by simp [ab_rcv, hn, ha, T20]) rfl (c_looks (p := va_cpy (fun _ => 0) (fun _ => 0) 0 0 12) (q := va_cpy (fun _ => 0) (fun _ => 0) 0 0 12) (s := va_cpy (fun _ => 0) (fun _ => 0) 0 0 8) (t := va_cpy (fun _ => 0) (fun _ => 0) 0 0 8) (d' := 0) (e' := 0) (fun _ => rfl) (fun _ => rfl) l1 ha k28 k21 k29 k25 k33) ?_
  refine Ev.step rfl rfl ?_
  refine Ev.step rfl rfl ?_
  refine Ev.getf rfl (Nat.lt_of_lt_of_le (by decide) l1) k0 rfl ?_
  refine Ev.getf (fs := [.ref 29, .ref 30, .ref 31, .ref 32, .ref 33, .ref 34, .ref 35, .int 0, .int 0, .int 0]) rfl (Nat.lt_of_lt_of_le (by decide) l1) k28 rfl ?_
  exact Ev.ret rfl rfl ⟨rfl, hn, fun k => (hk k).trans rfl⟩
