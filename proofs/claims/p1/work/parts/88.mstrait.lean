/-! ===== strait: the reference ===== -/
theorem i_le {k n : Nat} (h : n ≤ k) (hk : k < 2147483648) : decide (Int32.ofNat n ≤ Int32.ofNat k) = true := by
  refine decide_eq_true ?_
  rw [Int32.le_iff_toInt_le, i_toInt hk, i_toInt (Nat.lt_of_le_of_lt h hk)]
  omega
def TS : Nat → Option ab_A := ab_T (L_X11_strait Z_X11_taken Z_X11_next Z_X11_line Z_X11_sign)
set_option maxRecDepth 10000 in
set_option maxHeartbeats 4000000 in
theorem st_1 {hp : ab_H} {fs : List Value} {Q : ab_O → Prop} (h1 : 88 ≤ hp.1) (h69 : hp.2 69 = .inr (11, fs)) {f0 : Nat → Int32} (f7 : fs[7]? = some (.ref 72)) (h72 : hp.2 72 = .inl (1, 120, .inl f0)) (he : ∀ f', Ev TS 68 ([some (.ref 69), some (.int (Int32.ofNat 120))], [], (0, 0), ab_up hp 72 (.inl (1, 120, .inl f'))) Q) : Ev TS 49 ([some (.ref 69), some (.int 0)], [], (0, 0), hp) Q := by
  refine Ev.loop (N := 120) (S := fun i x => ([some (.ref 69), some (.int (Int32.ofNat i))], [], (0, 0), x)) (fun _ x => ∃ f, x = ab_up hp 72 (.inl (1, 120, .inl f))) ?_ ?_ hp ⟨f0, ab_up_same h72⟩
  · rintro i _ hi ⟨f, rfl⟩ ih
    refine Ev.step rfl rfl ?_
    refine Ev.step rfl rfl ?_
    refine Ev.step rfl rfl ?_
    refine Ev.br (fun hb => absurd (hb.symm.trans (i_ge hi (by decide))) (by decide)) (fun _ => ?_)
    refine Ev.step rfl rfl ?_
    refine Ev.getf (fs := fs) rfl (Nat.lt_of_lt_of_le (by decide) h1) h69 f7 ?_
    refine Ev.step rfl rfl ?_
    refine Ev.step rfl rfl ?_
    refine Ev.ast (f := f) rfl (Nat.lt_of_lt_of_le (by decide) h1) rfl (i_in hi (by omega)) ?_
    refine Ev.step rfl rfl ?_
    refine Ev.step rfl rfl ?_
    refine (show Ev _ 49 ([some (.ref 69), some (.int (Int32.ofNat i + 1))], [], (0, 0), ab_up (ab_up hp 72 (.inl (1, 120, .inl f))) 72 _) _ from ?_)
    rw [i_succ, ab_up_up]
    exact ih _ ⟨_, rfl⟩
  · rintro _ ⟨f, rfl⟩
    refine Ev.step rfl rfl ?_
    refine Ev.step rfl rfl ?_
    refine Ev.step rfl rfl ?_
    exact he f
set_option maxRecDepth 10000 in
set_option maxHeartbeats 4000000 in
theorem st_2 {hp : ab_H} {fs : List Value} {Q : ab_O → Prop} (h1 : 88 ≤ hp.1) (h69 : hp.2 69 = .inr (11, fs)) {s f0 : Nat → Int32} (f6 : fs[6]? = some (.ref 71)) (f7 : fs[7]? = some (.ref 72)) (h71 : hp.2 71 = .inl (1, 434, .inl s)) (h72 : hp.2 72 = .inl (1, 120, .inl f0)) (he : ∀ f', Ev TS 160 ([some (.ref 69), some (.int (Int32.ofNat 434))], [], (0, 0), ab_up hp 71 (.inl (1, 434, .inl f'))) Q) : Ev TS 125 ([some (.ref 69), some (.int 0)], [], (0, 0), hp) Q := by
  refine Ev.loop (N := 434) (S := fun i x => ([some (.ref 69), some (.int (Int32.ofNat i))], [], (0, 0), x)) (fun _ x => ∃ f, x = ab_up hp 71 (.inl (1, 434, .inl f))) ?_ ?_ hp ⟨s, ab_up_same h71⟩
  · rintro i _ hi ⟨f, rfl⟩ ih
    refine Ev.step rfl rfl ?_
    refine Ev.step rfl rfl ?_
    refine Ev.step rfl rfl ?_
    refine Ev.br (fun hb => absurd (hb.symm.trans (i_ge hi (by decide))) (by decide)) (fun _ => ?_)
    refine Ev.step rfl rfl ?_
    refine Ev.getf (fs := fs) rfl (Nat.lt_of_lt_of_le (by decide) h1) h69 f6 ?_
    refine Ev.step rfl rfl ?_
    refine Ev.step rfl rfl ?_
    refine Ev.step rfl rfl ?_
    refine Ev.step rfl rfl ?_
    by_cases hj : i < 120
    · refine Ev.br (fun hb => absurd (hb.symm.trans (i_ge hj (by decide))) (by decide)) (fun _ => ?_)
      refine Ev.step rfl rfl ?_
      refine Ev.getf (fs := fs) rfl (Nat.lt_of_lt_of_le (by decide) h1) h69 f7 ?_
      refine Ev.step rfl rfl ?_
      refine Ev.ald (f := f0) rfl (Nat.lt_of_lt_of_le (by decide) h1) h72 (i_in hj (by omega)) ?_
      refine Ev.step rfl rfl ?_
      refine Ev.ast (f := f) rfl (Nat.lt_of_lt_of_le (by decide) h1) rfl (i_in hi (by omega)) ?_
      refine Ev.step rfl rfl ?_
      refine Ev.step rfl rfl ?_
      refine (show Ev _ 125 ([some (.ref 69), some (.int (Int32.ofNat i + 1))], [], (0, 0), ab_up (ab_up hp 71 (.inl (1, 434, .inl f))) 71 _) _ from ?_)
      rw [i_succ, ab_up_up]
      exact ih _ ⟨_, rfl⟩
    · refine Ev.br (fun _ => ?_) (fun hb => absurd ((i_le (n := 120) (k := i) (by omega) (by omega)).symm.trans hb) (by decide))
      refine Ev.step rfl rfl ?_
      refine Ev.ast (f := f) rfl (Nat.lt_of_lt_of_le (by decide) h1) rfl (i_in hi (by omega)) ?_
      refine Ev.step rfl rfl ?_
      refine Ev.step rfl rfl ?_
      refine (show Ev _ 125 ([some (.ref 69), some (.int (Int32.ofNat i + 1))], [], (0, 0), ab_up (ab_up hp 71 (.inl (1, 434, .inl f))) 71 _) _ from ?_)
      rw [i_succ, ab_up_up]
      exact ih _ ⟨_, rfl⟩
  · rintro _ ⟨f, rfl⟩
    refine Ev.step rfl rfl ?_
    refine Ev.step rfl rfl ?_
    refine Ev.step rfl rfl ?_
    exact he f
set_option maxRecDepth 10000 in
set_option maxHeartbeats 4000000 in
theorem st_3 {hp : ab_H} {fs : List Value} {Q : ab_O → Prop} (h1 : 88 ≤ hp.1) (h69 : hp.2 69 = .inr (11, fs)) {f0 : Nat → Int64} (f9 : fs[9]? = some (.ref 74)) (h74 : hp.2 74 = .inl (2, 28, .inr (.inl f0))) (he : ∀ f', Ev TS 189 ([some (.ref 69), some (.int (Int32.ofNat 14))], [], (0, 0), ab_up hp 74 (.inl (2, 28, .inr (.inl f')))) Q) : Ev TS 162 ([some (.ref 69), some (.int 0)], [], (0, 0), hp) Q := by
  refine Ev.loop (N := 14) (S := fun i x => ([some (.ref 69), some (.int (Int32.ofNat i))], [], (0, 0), x)) (fun _ x => ∃ f, x = ab_up hp 74 (.inl (2, 28, .inr (.inl f)))) ?_ ?_ hp ⟨f0, ab_up_same h74⟩
  · rintro i _ hi ⟨f, rfl⟩ ih
    refine Ev.step rfl rfl ?_
    refine Ev.step rfl rfl ?_
    refine Ev.step rfl rfl ?_
    refine Ev.br (fun hb => absurd (hb.symm.trans (i_ge hi (by decide))) (by decide)) (fun _ => ?_)
    refine Ev.step rfl rfl ?_
    refine Ev.getf (fs := fs) rfl (Nat.lt_of_lt_of_le (by decide) h1) h69 f9 ?_
    refine Ev.step rfl rfl ?_
    refine Ev.step rfl rfl ?_
    refine Ev.getf (fs := fs) rfl (Nat.lt_of_lt_of_le (by decide) h1) h69 f9 ?_
    refine Ev.step rfl rfl ?_
    refine Ev.step rfl rfl ?_
    refine Ev.step rfl rfl ?_
    refine Ev.lald (f := f) rfl (Nat.lt_of_lt_of_le (by decide) h1) rfl (i_ina (a := 14) (by omega) (by omega)) ?_
    refine Ev.last (f := f) rfl (Nat.lt_of_lt_of_le (by decide) h1) rfl (i_in (by omega) (by omega)) ?_
    refine Ev.step rfl rfl ?_
    refine Ev.step rfl rfl ?_
    refine (show Ev _ 162 ([some (.ref 69), some (.int (Int32.ofNat i + 1))], [], (0, 0), ab_up (ab_up hp 74 (.inl (2, 28, .inr (.inl f)))) 74 _) _ from ?_)
    rw [i_succ, ab_up_up]
    exact ih _ ⟨_, rfl⟩
  · rintro _ ⟨f, rfl⟩
    refine Ev.step rfl rfl ?_
    refine Ev.step rfl rfl ?_
    refine Ev.step rfl rfl ?_
    exact he f
set_option maxRecDepth 10000 in
set_option maxHeartbeats 4000000 in
theorem st_4 {hp : ab_H} {fs : List Value} {Q : ab_O → Prop} (h1 : 88 ≤ hp.1) (h69 : hp.2 69 = .inr (11, fs)) {s : Nat → Int32} (f6 : fs[6]? = some (.ref 71)) (h71 : hp.2 71 = .inl (1, 434, .inl s)) (he : ∀ f', Ev TS 220 ([some (.ref 69), some (.int (Int32.ofNat 12))], [], (0, 0), ab_up hp 71 (.inl (1, 434, .inl f'))) Q) : Ev TS 191 ([some (.ref 69), some (.int 0)], [], (0, 0), hp) Q := by
  refine Ev.loop (N := 12) (S := fun i x => ([some (.ref 69), some (.int (Int32.ofNat i))], [], (0, 0), x)) (fun _ x => ∃ f, x = ab_up hp 71 (.inl (1, 434, .inl f))) ?_ ?_ hp ⟨s, ab_up_same h71⟩
  · rintro i _ hi ⟨f, rfl⟩ ih
    refine Ev.step rfl rfl ?_
    refine Ev.step rfl rfl ?_
    refine Ev.step rfl rfl ?_
    refine Ev.br (fun hb => absurd (hb.symm.trans (i_ge hi (by decide))) (by decide)) (fun _ => ?_)
    refine Ev.step rfl rfl ?_
    refine Ev.getf (fs := fs) rfl (Nat.lt_of_lt_of_le (by decide) h1) h69 f6 ?_
    refine Ev.step rfl rfl ?_
    refine Ev.step rfl rfl ?_
    refine Ev.step rfl rfl ?_
    refine Ev.step rfl rfl ?_
    refine Ev.getf (fs := fs) rfl (Nat.lt_of_lt_of_le (by decide) h1) h69 f6 ?_
    refine Ev.step rfl rfl ?_
    refine Ev.step rfl rfl ?_
    refine Ev.step rfl rfl ?_
    refine Ev.ald (f := f) rfl (Nat.lt_of_lt_of_le (by decide) h1) rfl (i_ina (a := 4) (by omega) (by omega)) ?_
    refine Ev.ast (f := f) rfl (Nat.lt_of_lt_of_le (by decide) h1) rfl (i_ina (a := 124) (by omega) (by omega)) ?_
    refine Ev.step rfl rfl ?_
    refine Ev.step rfl rfl ?_
    refine (show Ev _ 191 ([some (.ref 69), some (.int (Int32.ofNat i + 1))], [], (0, 0), ab_up (ab_up hp 71 (.inl (1, 434, .inl f))) 71 _) _ from ?_)
    rw [i_succ, ab_up_up]
    exact ih _ ⟨_, rfl⟩
  · rintro _ ⟨f, rfl⟩
    refine Ev.step rfl rfl ?_
    refine Ev.step rfl rfl ?_
    refine Ev.step rfl rfl ?_
    exact he f
set_option maxRecDepth 10000 in
set_option maxHeartbeats 4000000 in
theorem st_5 {hp : ab_H} {fs : List Value} {Q : ab_O → Prop} (h1 : 88 ≤ hp.1) (h69 : hp.2 69 = .inr (11, fs)) {s : Nat → Int32} (f6 : fs[6]? = some (.ref 71)) (h71 : hp.2 71 = .inl (1, 434, .inl s)) (he : ∀ f', Ev TS 253 ([some (.ref 69), some (.int (Int32.ofNat 8))], [], (0, 0), ab_up hp 71 (.inl (1, 434, .inl f'))) Q) : Ev TS 222 ([some (.ref 69), some (.int 0)], [], (0, 0), hp) Q := by
  refine Ev.loop (N := 8) (S := fun i x => ([some (.ref 69), some (.int (Int32.ofNat i))], [], (0, 0), x)) (fun _ x => ∃ f, x = ab_up hp 71 (.inl (1, 434, .inl f))) ?_ ?_ hp ⟨s, ab_up_same h71⟩
  · rintro i _ hi ⟨f, rfl⟩ ih
    refine Ev.step rfl rfl ?_
    refine Ev.step rfl rfl ?_
    refine Ev.step rfl rfl ?_
    refine Ev.br (fun hb => absurd (hb.symm.trans (i_ge hi (by decide))) (by decide)) (fun _ => ?_)
    refine Ev.step rfl rfl ?_
    refine Ev.getf (fs := fs) rfl (Nat.lt_of_lt_of_le (by decide) h1) h69 f6 ?_
    refine Ev.step rfl rfl ?_
    refine Ev.step rfl rfl ?_
    refine Ev.step rfl rfl ?_
    refine Ev.step rfl rfl ?_
    refine Ev.getf (fs := fs) rfl (Nat.lt_of_lt_of_le (by decide) h1) h69 f6 ?_
    refine Ev.step rfl rfl ?_
    refine Ev.step rfl rfl ?_
    refine Ev.step rfl rfl ?_
    refine Ev.ald (f := f) rfl (Nat.lt_of_lt_of_le (by decide) h1) rfl (i_ina (a := 52) (by omega) (by omega)) ?_
    refine Ev.ast (f := f) rfl (Nat.lt_of_lt_of_le (by decide) h1) rfl (i_ina (a := 172) (by omega) (by omega)) ?_
    refine Ev.step rfl rfl ?_
    refine Ev.step rfl rfl ?_
    refine (show Ev _ 222 ([some (.ref 69), some (.int (Int32.ofNat i + 1))], [], (0, 0), ab_up (ab_up hp 71 (.inl (1, 434, .inl f))) 71 _) _ from ?_)
    rw [i_succ, ab_up_up]
    exact ih _ ⟨_, rfl⟩
  · rintro _ ⟨f, rfl⟩
    refine Ev.step rfl rfl ?_
    refine Ev.step rfl rfl ?_
    refine Ev.step rfl rfl ?_
    exact he f
set_option maxRecDepth 10000 in
set_option maxHeartbeats 4000000 in
theorem m_strait (m : Nat) (g : Nat → ab_E) : ∃ hp, Z_X11_strait [.ref 69] (MG m g) = some (some (.int 0), hp) := by
  refine mX (Nat.le_of_ble_eq_true rfl) ?_
  iterate 62 refine Ev.step rfl rfl ?_
  refine st_1 (Nat.le_add_left 88 m) rfl rfl rfl (fun f1 => ?_)
  iterate 12 refine Ev.step rfl rfl ?_
  refine st_2 (Nat.le_add_left 88 m) rfl rfl rfl rfl rfl (fun f2 => ?_)
  iterate 2 refine Ev.step rfl rfl ?_
  refine st_3 (Nat.le_add_left 88 m) rfl rfl rfl (fun f3 => ?_)
  iterate 2 refine Ev.step rfl rfl ?_
  refine st_4 (Nat.le_add_left 88 m) rfl rfl rfl (fun f4 => ?_)
  iterate 2 refine Ev.step rfl rfl ?_
  refine st_5 (Nat.le_add_left 88 m) rfl rfl rfl (fun f5 => ?_)
  repeat refine Ev.step rfl rfl ?_
  exact Ev.ret rfl rfl rfl
