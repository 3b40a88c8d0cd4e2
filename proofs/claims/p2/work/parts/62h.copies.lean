/-! ===== methods by hand: helpers; the reference's copies ===== -/
theorem hd_this {t : Nat → Nat} {hp : ab_H} {as : List Value} {g p : Nat} (H : sf_h t hp) (hl : as.length = 1) (hj : ∀ (i : Nat) (j : sf_J), ([(1, g, 0)] : List sf_J)[i]? = some j → sf_j t hp.1 j as[i]?) (hP : sf_P g = some p) : as = [.ref p] ∧ p < hp.1 ∧ t p = g := by
  obtain ⟨h1, h2⟩ := H.2.2 g p hP
  refine ⟨?_, h1, h2⟩
  match as, hl with
  | [v], _ =>
    rcases (hj 0 _ rfl).2.1 rfl with ⟨a, ha, hlt, hta⟩ | ⟨h0, -⟩
    · cases ha
      have e : a = p := H.2.1 a p hlt (by rw [hta]; exact hP)
      rw [e]
    · exact absurd h0 (by show (0 : Nat) ≠ 1; decide)
theorem hd_fld {t : Nat → Nat} {hp : ab_H} (H : sf_h t hp) {a ci i g p : Nat} {fs : List Value} (ha : a < hp.1) (ht : t a = ci) (hc : ci < 100) (he : hp.2 a = .inr (ci, fs)) (hk : (sf_C ci)[i]? = some (1, (g : Int), 0)) (hP : sf_P g = some p) : fs[i]? = some (.ref p) ∧ p < hp.1 ∧ t p = g := by
  obtain ⟨fs', v, e1, e2, e3⟩ := sf_get H ha ht hc hk
  rw [he] at e1
  have e0 : fs = fs' := (Prod.mk.inj (Sum.inr.inj e1)).2
  subst e0
  obtain ⟨h1, h2⟩ := H.2.2 g p hP
  refine ⟨?_, h1, h2⟩
  cases v with
  | ref b =>
    have hb : (t b : Int) = (g : Int) := e3.2.2
    have hb' : t b = g := by omega
    have e : b = p := H.2.1 b p e3.2.1 (by rw [hb']; exact hP)
    rw [e2, e]
  | int x => exact absurd e3.1 (by show (1 : Nat) ≠ 0; decide)
  | null => exact absurd e3.2 (by show (0 : Int) ≠ 1; decide)
  | long x => exact absurd e3 (by show (1 : Nat) ≠ 2; decide)
  | _ => exact e3.elim
theorem hd_obj {t : Nat → Nat} {hp : ab_H} (H : sf_h t hp) {a ci : Nat} (ha : a < hp.1) (ht : t a = ci) (hc : ci < 100) (hs : sf_o ci = ci := by rfl) : ∃ fs, hp.2 a = .inr (ci, fs) := by
  have h := H.1 a ha
  rw [ht] at h
  cases e : hp.2 a with
  | inl x =>
    rw [e] at h
    exact absurd h.1 (by omega)
  | inr o =>
    rw [e] at h
    obtain ⟨c, fs⟩ := o
    have h1 : c = sf_o ci := h.1
    subst h1
    exact ⟨fs, by rw [hs]⟩
theorem sg_b : ∀ k, k < 133 → sf_e (sf_A 139).2.2 k = sf_e (sf_A 132).2.2 (120 + k) := by decide +kernel
theorem hd_88 {t : Nat → Nat} {hp : ab_H} (H : sf_h t hp) : 88 ≤ hp.1 := (H.2.2 148 87 rfl).1
def kh_X11_tries : sf_Q := ([(1, 11, 0)], [], none, [], [(139, 0, 132)])
set_option maxRecDepth 10000 in
set_option maxHeartbeats 2000000 in
theorem ct_X11_tries : sf_ct kh_X11_tries Z_X11_tries := by
  intro t hp as H hl hj _
  have h88 := hd_88 H
  obtain ⟨rfl, a1, a2⟩ := hd_this (p := 69) H hl hj rfl
  obtain ⟨fs, h69⟩ := hd_obj H a1 a2 (by decide)
  obtain ⟨f6, b1, b2⟩ := hd_fld H a1 a2 (by decide) h69 (i := 6) (g := 132) (p := 71) rfl rfl
  obtain ⟨f24, c1, c2⟩ := hd_fld H a1 a2 (by decide) h69 (i := 24) (g := 139) (p := 78) rfl rfl
  obtain ⟨s, h71, ks⟩ := sf_arr H b1 b2 (by decide) (by decide) (by decide)
  obtain ⟨f, h78, kf⟩ := sf_arr H c1 c2 (by decide) (by decide) (by decide)
  replace h71 : hp.2 71 = .inl (1, 434, .inl s) := h71
  replace h78 : hp.2 78 = .inl (1, 133, .inl f) := h78
  have run : ∃ hp', Z_X11_tries [.ref 69] hp = some (none, hp') ∧ ∃ d : Nat → Int32, (∀ j, j < (sf_A 139).2.1 → sf_v t hp.1 (sf_e (sf_A 139).2.2 j) (.int (d j))) ∧ (∀ j, ¬ (0 ≤ j ∧ j ≤ 132) → d j = f j) ∧ hp' = ab_up hp 78 (.inl (1, 133, .inl d)) := by
    refine xX (Nat.le_of_ble_eq_true rfl) ?_
    refine Ev.step rfl rfl ?_
    refine Ev.step rfl rfl ?_
    refine Ev.loop (N := 133) (S := fun k x => ([some (.ref 69), some (.int (Int32.ofNat k))], [], (0, 0), x)) (fun _ x => ∃ d : Nat → Int32, (∀ j, j < (sf_A 139).2.1 → sf_v t hp.1 (sf_e (sf_A 139).2.2 j) (.int (d j))) ∧ (∀ j, ¬ (0 ≤ j ∧ j ≤ 132) → d j = f j) ∧ x = ab_up hp 78 (.inl (1, 133, .inl d))) ?_ ?_ hp ⟨f, kf, fun _ _ => rfl, ab_up_same h78⟩
    · rintro k _ hk ⟨d, kd, sd, rfl⟩ ih
      refine Ev.step rfl rfl ?_
      refine Ev.step rfl rfl ?_
      refine Ev.step rfl rfl ?_
      refine Ev.br (fun hb => absurd (hb.symm.trans (i_ge hk (by decide))) (by decide)) (fun _ => ?_)
      refine Ev.step rfl rfl ?_
      refine Ev.getf (fs := fs) rfl (Nat.lt_of_lt_of_le (by decide) h88) h69 f24 ?_
      refine Ev.step rfl rfl ?_
      refine Ev.step rfl rfl ?_
      refine Ev.getf (fs := fs) rfl (Nat.lt_of_lt_of_le (by decide) h88) h69 f6 ?_
      refine Ev.step rfl rfl ?_
      refine Ev.step rfl rfl ?_
      refine Ev.step rfl rfl ?_
      refine Ev.ald (f := s) rfl (Nat.lt_of_lt_of_le (by decide) h88) h71 (i_ina (a := 120) (by omega) (by omega)) ?_
      refine Ev.ast (f := d) rfl (Nat.lt_of_lt_of_le (by decide) h88) rfl (i_in hk (by omega)) ?_
      refine Ev.step rfl rfl ?_
      refine Ev.step rfl rfl ?_
      refine (show Ev _ 2 ([some (.ref 69), some (.int (Int32.ofNat k + 1))], [], (0, 0), ab_up (ab_up hp 78 (.inl (1, 133, .inl d))) 78 (.inl (1, 133, .inl (upd d (Int32.ofNat k).toNatClampNeg (ab_nar 1 (s (Int32.ofNat 120 + Int32.ofNat k).toNatClampNeg)))))) _ from ?_)
      rw [i_succ, ab_up_up]
      have ei : (Int32.ofNat k).toNatClampNeg = k := i_toNat (by omega)
      rw [ei]
      refine ih _ ⟨_, fun j hj => ?_, fun j hj => ?_, rfl⟩
      · show sf_v t hp.1 _ (.int (if j = k then _ else d j))
        by_cases e : j = k
        · rw [if_pos e, e]
          have e1 : (Int32.ofNat 120 + Int32.ofNat k).toNatClampNeg = 120 + k := by rw [i_add]; exact i_toNat (by omega)
          have hv := ks (120 + k) (by show 120 + k < 434; omega)
          rw [← sg_b k hk] at hv
          show sf_v t hp.1 _ (.int (s (Int32.ofNat 120 + Int32.ofNat k).toNatClampNeg))
          rw [e1]
          exact hv
        · rw [if_neg e]
          exact kd j hj
      · show (if j = k then _ else d j) = _
        rw [if_neg (by omega)]
        exact sd j hj
    · rintro _ ⟨d, kd, sd, rfl⟩
      refine Ev.step rfl rfl ?_
      refine Ev.step rfl rfl ?_
      refine Ev.step rfl rfl ?_
      exact Ev.ret rfl rfl ⟨rfl, d, kd, sd, rfl⟩
  obtain ⟨hp', e, d, kd, sd, rfl⟩ := run
  have tg : t 78 = 139 := c2
  refine ⟨none, _, t, e, sf_arr_put (g := 139) H c1 tg (by decide) (by decide) (by decide) kd, sf_fr_up (i0 := 0) (i1 := 132) (fun i i1 i2 => ?_) (by decide) (fun i hi => ?_), ⟨fun _ => rfl, fun k e => (by cases e)⟩, sf_S_nil⟩
  · rw [tg]
    show (decide ((139 : Nat) = 139) && decide (0 ≤ i) && decide (i ≤ 132) || false) = true
    rw [decide_eq_true i1, decide_eq_true i2]
    rfl
  · rw [sf_rd_up_arr]
    unfold sf_rd
    rw [h78]
    dsimp only
    rw [sd i hi]
def kh_X11_back : sf_Q := ([(1, 11, 0)], [], none, [], [(132, 120, 252)])
set_option maxRecDepth 10000 in
set_option maxHeartbeats 2000000 in
theorem ct_X11_back : sf_ct kh_X11_back Z_X11_back := by
  intro t hp as H hl hj _
  have h88 := hd_88 H
  obtain ⟨rfl, a1, a2⟩ := hd_this (p := 69) H hl hj rfl
  obtain ⟨fs, h69⟩ := hd_obj H a1 a2 (by decide)
  obtain ⟨f6, b1, b2⟩ := hd_fld H a1 a2 (by decide) h69 (i := 6) (g := 132) (p := 71) rfl rfl
  obtain ⟨f24, c1, c2⟩ := hd_fld H a1 a2 (by decide) h69 (i := 24) (g := 139) (p := 78) rfl rfl
  obtain ⟨s, h71, ks⟩ := sf_arr H b1 b2 (by decide) (by decide) (by decide)
  obtain ⟨f, h78, kf⟩ := sf_arr H c1 c2 (by decide) (by decide) (by decide)
  replace h71 : hp.2 71 = .inl (1, 434, .inl s) := h71
  replace h78 : hp.2 78 = .inl (1, 133, .inl f) := h78
  have run : ∃ hp', Z_X11_back [.ref 69] hp = some (none, hp') ∧ ∃ d : Nat → Int32, (∀ j, j < (sf_A 132).2.1 → sf_v t hp.1 (sf_e (sf_A 132).2.2 j) (.int (d j))) ∧ (∀ j, ¬ (120 ≤ j ∧ j ≤ 252) → d j = s j) ∧ hp' = ab_up hp 71 (.inl (1, 434, .inl d)) := by
    refine xX (Nat.le_of_ble_eq_true rfl) ?_
    refine Ev.step rfl rfl ?_
    refine Ev.step rfl rfl ?_
    refine Ev.loop (N := 133) (S := fun k x => ([some (.ref 69), some (.int (Int32.ofNat k))], [], (0, 0), x)) (fun _ x => ∃ d : Nat → Int32, (∀ j, j < (sf_A 132).2.1 → sf_v t hp.1 (sf_e (sf_A 132).2.2 j) (.int (d j))) ∧ (∀ j, ¬ (120 ≤ j ∧ j ≤ 252) → d j = s j) ∧ x = ab_up hp 71 (.inl (1, 434, .inl d))) ?_ ?_ hp ⟨s, ks, fun _ _ => rfl, ab_up_same h71⟩
    · rintro k _ hk ⟨d, kd, sd, rfl⟩ ih
      refine Ev.step rfl rfl ?_
      refine Ev.step rfl rfl ?_
      refine Ev.step rfl rfl ?_
      refine Ev.br (fun hb => absurd (hb.symm.trans (i_ge hk (by decide))) (by decide)) (fun _ => ?_)
      refine Ev.step rfl rfl ?_
      refine Ev.getf (fs := fs) rfl (Nat.lt_of_lt_of_le (by decide) h88) h69 f6 ?_
      refine Ev.step rfl rfl ?_
      refine Ev.step rfl rfl ?_
      refine Ev.step rfl rfl ?_
      refine Ev.step rfl rfl ?_
      refine Ev.getf (fs := fs) rfl (Nat.lt_of_lt_of_le (by decide) h88) h69 f24 ?_
      refine Ev.step rfl rfl ?_
      refine Ev.ald (f := f) rfl (Nat.lt_of_lt_of_le (by decide) h88) h78 (i_in hk (by omega)) ?_
      refine Ev.ast (f := d) rfl (Nat.lt_of_lt_of_le (by decide) h88) rfl (i_ina (a := 120) (by omega) (by omega)) ?_
      refine Ev.step rfl rfl ?_
      refine Ev.step rfl rfl ?_
      refine (show Ev _ 2 ([some (.ref 69), some (.int (Int32.ofNat k + 1))], [], (0, 0), ab_up (ab_up hp 71 (.inl (1, 434, .inl d))) 71 (.inl (1, 434, .inl (upd d (Int32.ofNat 120 + Int32.ofNat k).toNatClampNeg (ab_nar 1 (f (Int32.ofNat k).toNatClampNeg)))))) _ from ?_)
      rw [i_succ, ab_up_up]
      have ei : (Int32.ofNat 120 + Int32.ofNat k).toNatClampNeg = 120 + k := by rw [i_add]; exact i_toNat (by omega)
      rw [ei]
      refine ih _ ⟨_, fun j hj => ?_, fun j hj => ?_, rfl⟩
      · show sf_v t hp.1 _ (.int (if j = 120 + k then _ else d j))
        by_cases e : j = 120 + k
        · rw [if_pos e, e]
          have e1 : (Int32.ofNat k).toNatClampNeg = k := i_toNat (by omega)
          have hv := kf k hk
          rw [sg_b k hk] at hv
          show sf_v t hp.1 _ (.int (f (Int32.ofNat k).toNatClampNeg))
          rw [e1]
          exact hv
        · rw [if_neg e]
          exact kd j hj
      · show (if j = 120 + k then _ else d j) = _
        rw [if_neg (by omega)]
        exact sd j hj
    · rintro _ ⟨d, kd, sd, rfl⟩
      refine Ev.step rfl rfl ?_
      refine Ev.step rfl rfl ?_
      refine Ev.step rfl rfl ?_
      exact Ev.ret rfl rfl ⟨rfl, d, kd, sd, rfl⟩
  obtain ⟨hp', e, d, kd, sd, rfl⟩ := run
  have tg : t 71 = 132 := b2
  refine ⟨none, _, t, e, sf_arr_put (g := 132) H b1 tg (by decide) (by decide) (by decide) kd, sf_fr_up (i0 := 120) (i1 := 252) (fun i i1 i2 => ?_) (by decide) (fun i hi => ?_), ⟨fun _ => rfl, fun k e => (by cases e)⟩, sf_S_nil⟩
  · rw [tg]
    show (decide ((132 : Nat) = 132) && decide (120 ≤ i) && decide (i ≤ 252) || false) = true
    rw [decide_eq_true i1, decide_eq_true i2]
    rfl
  · rw [sf_rd_up_arr]
    unfold sf_rd
    rw [h71]
    dsimp only
    rw [sd i hi]
