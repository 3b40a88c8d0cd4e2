theorem va_ev {T : Nat → Option ab_A} {i j MC MS : Nat} {lo : List (Option Value)} {st : List Value} {u : Nat × Nat} {hp : ab_H} {Q : ab_O → Prop} {t : Nat → Nat} {x : Int32} (hT : T i = some (ab_nx j (ab_callV 2 8 Z_X8_valueAt 0 0 MC MS))) (H : sf_h t hp) (x0 : 0 ≤ x.toInt) (hc : (decide (2 ≤ st.length + 2) && decide (ab_cats st ≤ 8) && decide (u.1 + 0 ≤ MC) && decide (u.2 + 0 ≤ MS)) = true)
    (h : ∀ z : Int32, z.toInt = bv hp 2 940 x.toInt.toNat → 0 ≤ z.toInt → z.toInt ≤ 255 → Ev T j (lo, .int z :: st, u, hp) Q) : Ev T i (lo, .int x :: .ref 1 :: st, u, hp) Q := by
  refine Ev.inl (L := L_X8_valueAt) (nL := 2) hT (bs_rcv (g := 8) H (bs_R.uq H (g := 8) rfl) (by decide) rfl) hc (Nat.le_of_ble_eq_true rfl) ?_
  refine (show Ev (ab_T L_X8_valueAt) 0 ([some (.ref 1), some (.int x)], [], (0, 0), hp) (fun o => Ev T j (lo, o.1.toList ++ st, u, o.2) Q) from ?_)
  refine Ev.step (j := 1) (s' := ([some (.ref 1), some (.int x)], [.int x], (0, 0), hp)) rfl rfl ?_
  refine bs_iflt rfl (fun c => absurd c (by omega)) (fun c => ?_)
  refine Ev.step (j := 5) (s' := ([some (.ref 1), some (.int x)], [.int x], (0, 0), hp)) rfl rfl ?_
  refine bs_lit (k := 940) rfl rfl fun z1 h1 => ?_
  refine bs_ge rfl (fun c2 => ?_) (fun c2 => ?_)
  · refine bs_lit (k := 0) rfl rfl fun z2 h2 => ?_
    exact Ev.ret (o := (some (.int z2), hp)) rfl rfl (h z2 (by unfold bv; rw [if_neg (by omega)]; exact h2) (by omega) (by omega))
  · refine Ev.step (j := 12) (s' := ([some (.ref 1), some (.int x)], [.ref 1], (0, 0), hp)) rfl rfl ?_
    refine bs_getU (g := 8) (g1 := 123) rfl rfl H (bs_R.uq H (g := 8) rfl) (by decide) rfl rfl ?_
    refine Ev.step (j := 16) (s' := ([some (.ref 1), some (.int x)], [.int x, .ref 2], (0, 0), hp)) rfl rfl ?_
    refine bs_ld (g := 123) 0 939 (-2147483648, 2147483647) rfl H (bs_R.uq H (g := 123) rfl) (by decide) rfl (by decide) (by decide) rfl (by decide) (by omega) (by omega) fun z2 h2 _ _ => ?_
    refine bs_lit (k := 255) rfl rfl fun z3 h3 => ?_
    refine bs_and255 rfl h3 fun z4 h4 => ?_
    refine Ev.step (j := 25) (s' := ([some (.ref 1), some (.int x)], [.int z4], (0, 0), hp)) rfl rfl ?_
    exact Ev.ret (o := (some (.int z4), hp)) rfl rfl (h z4 (h4.trans (bv_at h2 (by omega)).symm) (by omega) (by omega))
theorem pkv {hp : ab_H} {z : Int32} {p l : Int} (h : pkR hp z) (hp4 : sf_rd hp 69 4 = some p) (hp3 : sf_rd hp 69 3 = some l) (h0 : 0 ≤ p) : (l ≤ p ∧ z.toInt = -1) ∨ (p < l ∧ z.toInt = bv hp 70 l.toNat p.toNat) := by
  obtain ⟨p', l', h1, h2, h3⟩ := h
  have e1 : p' = p := Option.some.inj (h1.symm.trans hp4)
  have e2 : l' = l := Option.some.inj (h2.symm.trans hp3)
  subst e1 e2
  rcases h3 with h3 | ⟨h3, b, c, h4, h5, h6⟩
  · exact Or.inl h3
  · refine Or.inr ⟨h3, ?_⟩
    obtain rfl : c = 255 := Int32.toInt_inj.mp h5
    rw [h6, bv_at h4 (by omega)]
    exact n_and255 b
theorem tk_l_t {c : Int} (h1 : 97 ≤ c) (h2 : c ≤ 122) : tk_l c = true := by
  unfold tk_l
  rw [decide_eq_true h1, decide_eq_true h2]
  rfl
theorem tk_l_f {c : Int} (h : c < 97 ∨ 122 < c) : tk_l c = false := by
  unfold tk_l
  rcases h with h | h
  · rw [decide_eq_false (show ¬ 97 ≤ c by omega)]
    rfl
  · rw [decide_eq_false (show ¬ c ≤ 122 by omega), Bool.and_false]
theorem tk_d_t {c : Int} (h1 : 48 ≤ c) (h2 : c ≤ 57) : tk_d c = true := by
  unfold tk_d
  rw [decide_eq_true h1, decide_eq_true h2]
  rfl
theorem tk_d_f {c : Int} (h : c < 48 ∨ 57 < c) : tk_d c = false := by
  unfold tk_d
  rcases h with h | h
  · rw [decide_eq_false (show ¬ 48 ≤ c by omega)]
    rfl
  · rw [decide_eq_false (show ¬ c ≤ 57 by omega), Bool.and_false]
theorem tk_l_i {c : Int} (h : tk_l c = true) : 97 ≤ c ∧ c ≤ 122 := by
  unfold tk_l at h
  simpa using h
theorem tk_d_i {c : Int} (h : tk_d c = true) : 48 ≤ c ∧ c ≤ 57 := by
  unfold tk_d at h
  simpa using h
theorem tk_ld {c : Int} (h : tk_l c = true) : tk_d c = false := tk_d_f (by have := tk_l_i h; omega)
theorem tk_dl {c : Int} (h : tk_d c = true) : tk_l c = false := tk_l_f (by have := tk_d_i h; omega)
theorem tk_b_t {c : Int} (h : c = 32 ∨ c = 10) : tk_b c = true := by
  unfold tk_b
  rcases h with rfl | rfl <;> rfl
theorem tk_b_f {c : Int} (h1 : c ≠ 32) (h2 : c ≠ 10) : tk_b c = false := by
  unfold tk_b
  rw [decide_eq_false h1, decide_eq_false h2]
  rfl
theorem tk_r_l {c : Int} (h : tk_l c = true) : tk_r c = true := by
  unfold tk_r
  rw [h]
  rfl
theorem tk_r_d {c : Int} (h : tk_d c = true) : tk_r c = true := by
  unfold tk_r
  rw [h, Bool.or_true]
theorem tk_r_f {c : Int} (h : tk_l c = false) (h2 : tk_d c = false) : tk_r c = false := by
  unfold tk_r
  rw [h, h2]
  rfl
theorem px_X8_isLetter {x : Int32} {hp : ab_H} : ∃ z : Int32, Z_X8_isLetter [.int x] hp = some (some (.int z), hp) ∧ ((z.toInt = 1 ∧ tk_l x.toInt = true) ∨ (z.toInt = 0 ∧ tk_l x.toInt = false)) := by
  have h : ∃ o, ab_X (ab_T L_X8_isLetter) 1 [.int x] hp = some o ∧ ∃ z : Int32, o = (some (.int z), hp) ∧ ((z.toInt = 1 ∧ tk_l x.toInt = true) ∨ (z.toInt = 0 ∧ tk_l x.toInt = false)) := by
    refine ab_X_ev (Nat.le_of_ble_eq_true rfl) ?_
    refine Ev.step (j := 1) (s' := ([some (.int x)], [.int x], (0, 0), hp)) rfl rfl ?_
    refine bs_lit (k := 97) rfl rfl fun z1 h1 => ?_
    refine bs_lt rfl (fun c => ?_) (fun c => ?_)
    · refine bs_lit (k := 0) rfl rfl fun z2 h2 => ?_
      exact bs_zret rfl rfl (by omega) (by omega) ⟨z2, rfl, Or.inr ⟨h2, tk_l_f (by omega)⟩⟩
    · refine Ev.step (j := 7) (s' := ([some (.int x)], [.int x], (0, 0), hp)) rfl rfl ?_
      refine bs_lit (k := 122) rfl rfl fun z3 h3 => ?_
      refine bs_gt rfl (fun c2 => ?_) (fun c2 => ?_)
      · refine bs_lit (k := 0) rfl rfl fun z2 h2 => ?_
        exact bs_zret rfl rfl (by omega) (by omega) ⟨z2, rfl, Or.inr ⟨h2, tk_l_f (by omega)⟩⟩
      · refine bs_lit (k := 1) rfl rfl fun z2 h2 => ?_
        refine Ev.step (j := 17) (s' := ([some (.int x)], [.int z2], (0, 0), hp)) rfl rfl ?_
        exact bs_zret rfl rfl (by omega) (by omega) ⟨z2, rfl, Or.inl ⟨h2, tk_l_t (by omega) (by omega)⟩⟩
  obtain ⟨o, h1, z, rfl, h2⟩ := h
  exact ⟨z, h1, h2⟩
theorem px_X8_isDigit {x : Int32} {hp : ab_H} : ∃ z : Int32, Z_X8_isDigit [.int x] hp = some (some (.int z), hp) ∧ ((z.toInt = 1 ∧ tk_d x.toInt = true) ∨ (z.toInt = 0 ∧ tk_d x.toInt = false)) := by
  have h : ∃ o, ab_X (ab_T L_X8_isDigit) 1 [.int x] hp = some o ∧ ∃ z : Int32, o = (some (.int z), hp) ∧ ((z.toInt = 1 ∧ tk_d x.toInt = true) ∨ (z.toInt = 0 ∧ tk_d x.toInt = false)) := by
    refine ab_X_ev (Nat.le_of_ble_eq_true rfl) ?_
    refine Ev.step (j := 1) (s' := ([some (.int x)], [.int x], (0, 0), hp)) rfl rfl ?_
    refine bs_lit (k := 48) rfl rfl fun z1 h1 => ?_
    refine bs_lt rfl (fun c => ?_) (fun c => ?_)
    · refine bs_lit (k := 0) rfl rfl fun z2 h2 => ?_
      exact bs_zret rfl rfl (by omega) (by omega) ⟨z2, rfl, Or.inr ⟨h2, tk_d_f (by omega)⟩⟩
    · refine Ev.step (j := 7) (s' := ([some (.int x)], [.int x], (0, 0), hp)) rfl rfl ?_
      refine bs_lit (k := 57) rfl rfl fun z3 h3 => ?_
      refine bs_gt rfl (fun c2 => ?_) (fun c2 => ?_)
      · refine bs_lit (k := 0) rfl rfl fun z2 h2 => ?_
        exact bs_zret rfl rfl (by omega) (by omega) ⟨z2, rfl, Or.inr ⟨h2, tk_d_f (by omega)⟩⟩
      · refine bs_lit (k := 1) rfl rfl fun z2 h2 => ?_
        refine Ev.step (j := 17) (s' := ([some (.int x)], [.int z2], (0, 0), hp)) rfl rfl ?_
        exact bs_zret rfl rfl (by omega) (by omega) ⟨z2, rfl, Or.inl ⟨h2, tk_d_t (by omega) (by omega)⟩⟩
  obtain ⟨o, h1, z, rfl, h2⟩ := h
  exact ⟨z, h1, h2⟩
theorem px_X11_isSmall {x : Int32} {hp : ab_H} : ∃ z : Int32, Z_X11_isSmall [.int x] hp = some (some (.int z), hp) ∧ ((z.toInt = 1 ∧ tk_l x.toInt = true) ∨ (z.toInt = 0 ∧ tk_l x.toInt = false)) := by
  have h : ∃ o, ab_X (ab_T L_X11_isSmall) 1 [.int x] hp = some o ∧ ∃ z : Int32, o = (some (.int z), hp) ∧ ((z.toInt = 1 ∧ tk_l x.toInt = true) ∨ (z.toInt = 0 ∧ tk_l x.toInt = false)) := by
    refine ab_X_ev (Nat.le_of_ble_eq_true rfl) ?_
    refine Ev.step (j := 1) (s' := ([some (.int x)], [.int x], (0, 0), hp)) rfl rfl ?_
    refine bs_lit (k := 97) rfl rfl fun z1 h1 => ?_
    refine bs_lt rfl (fun c => ?_) (fun c => ?_)
    · refine bs_lit (k := 0) rfl rfl fun z2 h2 => ?_
      exact bs_zret rfl rfl (by omega) (by omega) ⟨z2, rfl, Or.inr ⟨h2, tk_l_f (by omega)⟩⟩
    · refine Ev.step (j := 7) (s' := ([some (.int x)], [.int x], (0, 0), hp)) rfl rfl ?_
      refine bs_lit (k := 122) rfl rfl fun z3 h3 => ?_
      refine bs_gt rfl (fun c2 => ?_) (fun c2 => ?_)
      · refine bs_lit (k := 0) rfl rfl fun z2 h2 => ?_
        exact bs_zret rfl rfl (by omega) (by omega) ⟨z2, rfl, Or.inr ⟨h2, tk_l_f (by omega)⟩⟩
      · refine bs_lit (k := 1) rfl rfl fun z2 h2 => ?_
        refine Ev.step (j := 17) (s' := ([some (.int x)], [.int z2], (0, 0), hp)) rfl rfl ?_
        exact bs_zret rfl rfl (by omega) (by omega) ⟨z2, rfl, Or.inl ⟨h2, tk_l_t (by omega) (by omega)⟩⟩
  obtain ⟨o, h1, z, rfl, h2⟩ := h
  exact ⟨z, h1, h2⟩
theorem px_X11_isDigit {x : Int32} {hp : ab_H} : ∃ z : Int32, Z_X11_isDigit [.int x] hp = some (some (.int z), hp) ∧ ((z.toInt = 1 ∧ tk_d x.toInt = true) ∨ (z.toInt = 0 ∧ tk_d x.toInt = false)) := by
  have h : ∃ o, ab_X (ab_T L_X11_isDigit) 1 [.int x] hp = some o ∧ ∃ z : Int32, o = (some (.int z), hp) ∧ ((z.toInt = 1 ∧ tk_d x.toInt = true) ∨ (z.toInt = 0 ∧ tk_d x.toInt = false)) := by
    refine ab_X_ev (Nat.le_of_ble_eq_true rfl) ?_
    refine Ev.step (j := 1) (s' := ([some (.int x)], [.int x], (0, 0), hp)) rfl rfl ?_
    refine bs_lit (k := 48) rfl rfl fun z1 h1 => ?_
    refine bs_lt rfl (fun c => ?_) (fun c => ?_)
    · refine bs_lit (k := 0) rfl rfl fun z2 h2 => ?_
      exact bs_zret rfl rfl (by omega) (by omega) ⟨z2, rfl, Or.inr ⟨h2, tk_d_f (by omega)⟩⟩
    · refine Ev.step (j := 7) (s' := ([some (.int x)], [.int x], (0, 0), hp)) rfl rfl ?_
      refine bs_lit (k := 57) rfl rfl fun z3 h3 => ?_
      refine bs_gt rfl (fun c2 => ?_) (fun c2 => ?_)
      · refine bs_lit (k := 0) rfl rfl fun z2 h2 => ?_
        exact bs_zret rfl rfl (by omega) (by omega) ⟨z2, rfl, Or.inr ⟨h2, tk_d_f (by omega)⟩⟩
      · refine bs_lit (k := 1) rfl rfl fun z2 h2 => ?_
        refine Ev.step (j := 17) (s' := ([some (.int x)], [.int z2], (0, 0), hp)) rfl rfl ?_
        exact bs_zret rfl rfl (by omega) (by omega) ⟨z2, rfl, Or.inl ⟨h2, tk_d_t (by omega) (by omega)⟩⟩
  obtain ⟨o, h1, z, rfl, h2⟩ := h
  exact ⟨z, h1, h2⟩
theorem px_X8_isSign {x : Int32} {hp : ab_H} : ∃ z : Int32, Z_X8_isSign [.int x] hp = some (some (.int z), hp) ∧ ((z.toInt = 1 ∧ tsgp x.toInt) ∨ (z.toInt = 0 ∧ ¬ tsgp x.toInt)) := by
  have h : ∃ o, ab_X (ab_T L_X8_isSign) 1 [.int x] hp = some o ∧ ∃ z : Int32, o = (some (.int z), hp) ∧ ((z.toInt = 1 ∧ tsgp x.toInt) ∨ (z.toInt = 0 ∧ ¬ tsgp x.toInt)) := by
    refine ab_X_ev (Nat.le_of_ble_eq_true rfl) ?_
    refine Ev.step (j := 1) (s' := ([some (.int x)], [.int x], (0, 0), hp)) rfl rfl ?_
    refine bs_lit (k := 59) rfl rfl fun z00 h00 => ?_
    refine bs_eq rfl (fun c0 => ?_) (fun c0 => ?_)
    · skip
      refine bs_lit (k := 1) rfl rfl fun z2 h2 => ?_
      refine Ev.step (j := 47) (s' := ([some (.int x)], [.int z2], (0, 0), hp)) rfl rfl ?_
      exact bs_zret rfl rfl (by omega) (by omega) ⟨z2, rfl, Or.inl ⟨h2, by unfold tsgp; omega⟩⟩
    refine Ev.step (j := 7) (s' := ([some (.int x)], [.int x], (0, 0), hp)) rfl rfl ?_
    refine bs_lit (k := 60) rfl rfl fun z10 h10 => ?_
    refine bs_eq rfl (fun c1 => ?_) (fun c1 => ?_)
    · skip
      refine bs_lit (k := 1) rfl rfl fun z2 h2 => ?_
      refine Ev.step (j := 47) (s' := ([some (.int x)], [.int z2], (0, 0), hp)) rfl rfl ?_
      exact bs_zret rfl rfl (by omega) (by omega) ⟨z2, rfl, Or.inl ⟨h2, by unfold tsgp; omega⟩⟩
    refine Ev.step (j := 13) (s' := ([some (.int x)], [.int x], (0, 0), hp)) rfl rfl ?_
    refine bs_lit (k := 61) rfl rfl fun z20 h20 => ?_
    refine bs_eq rfl (fun c2 => ?_) (fun c2 => ?_)
    · skip
      refine bs_lit (k := 1) rfl rfl fun z2 h2 => ?_
      refine Ev.step (j := 47) (s' := ([some (.int x)], [.int z2], (0, 0), hp)) rfl rfl ?_
      exact bs_zret rfl rfl (by omega) (by omega) ⟨z2, rfl, Or.inl ⟨h2, by unfold tsgp; omega⟩⟩
    refine Ev.step (j := 19) (s' := ([some (.int x)], [.int x], (0, 0), hp)) rfl rfl ?_
    refine bs_lit (k := 62) rfl rfl fun z30 h30 => ?_
    refine bs_eq rfl (fun c3 => ?_) (fun c3 => ?_)
    · skip
      refine bs_lit (k := 1) rfl rfl fun z2 h2 => ?_
      refine Ev.step (j := 47) (s' := ([some (.int x)], [.int z2], (0, 0), hp)) rfl rfl ?_
      exact bs_zret rfl rfl (by omega) (by omega) ⟨z2, rfl, Or.inl ⟨h2, by unfold tsgp; omega⟩⟩
    refine Ev.step (j := 25) (s' := ([some (.int x)], [.int x], (0, 0), hp)) rfl rfl ?_
    refine bs_lit (k := 40) rfl rfl fun z40 h40 => ?_
    refine bs_eq rfl (fun c4 => ?_) (fun c4 => ?_)
    · skip
      refine bs_lit (k := 1) rfl rfl fun z2 h2 => ?_
      refine Ev.step (j := 47) (s' := ([some (.int x)], [.int z2], (0, 0), hp)) rfl rfl ?_
      exact bs_zret rfl rfl (by omega) (by omega) ⟨z2, rfl, Or.inl ⟨h2, by unfold tsgp; omega⟩⟩
    refine Ev.step (j := 31) (s' := ([some (.int x)], [.int x], (0, 0), hp)) rfl rfl ?_
    refine bs_lit (k := 41) rfl rfl fun z50 h50 => ?_
    refine bs_eq rfl (fun c5 => ?_) (fun c5 => ?_)
    · skip
      refine bs_lit (k := 1) rfl rfl fun z2 h2 => ?_
      refine Ev.step (j := 47) (s' := ([some (.int x)], [.int z2], (0, 0), hp)) rfl rfl ?_
      exact bs_zret rfl rfl (by omega) (by omega) ⟨z2, rfl, Or.inl ⟨h2, by unfold tsgp; omega⟩⟩
    refine Ev.step (j := 37) (s' := ([some (.int x)], [.int x], (0, 0), hp)) rfl rfl ?_
    refine bs_lit (k := 46) rfl rfl fun z60 h60 => ?_
    refine bs_ne rfl (fun c6 => ?_) (fun c6 => ?_)
    · skip
      refine bs_lit (k := 0) rfl rfl fun z2 h2 => ?_
      exact bs_zret rfl rfl (by omega) (by omega) ⟨z2, rfl, Or.inr ⟨h2, by unfold tsgp; omega⟩⟩
    · skip
      refine bs_lit (k := 1) rfl rfl fun z2 h2 => ?_
      refine Ev.step (j := 47) (s' := ([some (.int x)], [.int z2], (0, 0), hp)) rfl rfl ?_
      exact bs_zret rfl rfl (by omega) (by omega) ⟨z2, rfl, Or.inl ⟨h2, by unfold tsgp; omega⟩⟩
  obtain ⟨o, h1, z, rfl, h2⟩ := h
  exact ⟨z, h1, h2⟩
def WT (k : Nat) : Int := (sw_at k).toInt
theorem x_charv (hp : ab_H) {x : Int32} (h0 : 0 ≤ x.toInt) (h1 : x.toInt ≤ 174) : ∃ z : Int32, Z_J0_charAt_5068e [.retAddr 4, .int x] hp = some (some (.int z), hp) ∧ z.toInt = WT x.toInt.toNat := by
  have tab : ∀ k, k < 175 → (((sw_at k &&& 255).toUInt32 % 65536).toInt32).toInt = WT k := by decide +kernel
  have hidx := n_idx h0
  have en : x.toNatClampNeg = x.toInt.toNat := by omega
  have h2 : Z_J1_charAt_3b067 [.retAddr 5, .int x] hp = some (some (.int (((sw_at x.toNatClampNeg &&& 255).toUInt32 % 65536).toInt32)), hp) := by
    refine ab_X_eq (Nat.le_of_ble_eq_true rfl) ?_
    refine Ev.step rfl rfl (Ev.step rfl rfl (Ev.step rfl rfl ?_))
    refine Ev.call (o := (none, hp)) rfl rfl (x_chkI hp h0 (by show x.toInt < 175; omega)) ?_
    refine Ev.step rfl rfl (Ev.step rfl rfl ?_)
    have e : ab_in x 175 = true := n_in h0 (by omega)
    refine Ev.nx (j := 9) (s' := (ab_en 2 [.retAddr 5, .int x], [.int (sw_at x.toNatClampNeg)], (0, 0), hp)) rfl ?_ ?_
    · show cond ((5 : Nat) == 5 && ab_in x 175) _ none = _
      rw [e]
      rfl
    refine Ev.step rfl rfl (Ev.step rfl rfl (Ev.step rfl rfl ?_))
    refine Ev.ret (o := (some (.int (((sw_at x.toNatClampNeg &&& 255).toUInt32 % 65536).toInt32)), hp)) rfl ?_ rfl
    show cond (decide (0 ≤ 0) && decide (0 ≤ 0) && decide _) _ none = _
    rw [decide_eq_true (c_mod _)]
    rfl
  refine ⟨((sw_at x.toNatClampNeg &&& 255).toUInt32 % 65536).toInt32, ?_, by rw [en]; exact tab _ (by omega)⟩
  refine ab_X_eq (Nat.le_of_ble_eq_true rfl) ?_
  refine Ev.step rfl rfl ?_
  refine Ev.callR (o := (some (.int 1), hp)) rfl rfl rfl (x_latin hp) ?_
  refine Ev.step rfl rfl (Ev.step rfl rfl (Ev.step rfl rfl (Ev.step rfl rfl ?_)))
  refine Ev.call (o := (some (.int (((sw_at x.toNatClampNeg &&& 255).toUInt32 % 65536).toInt32)), hp)) rfl rfl h2 ?_
  refine Ev.ret (o := (some (.int (((sw_at x.toNatClampNeg &&& 255).toUInt32 % 65536).toInt32)), hp)) rfl ?_ rfl
  show cond (decide (0 ≤ 0) && decide (0 ≤ 0) && decide _) _ none = _
  rw [decide_eq_true (c_mod _)]
  rfl
theorem WT_rng : ∀ k, k < 175 → 0 ≤ WT k ∧ WT k ≤ 255 := by decide +kernel
theorem WT_pv : ∀ k, k < 25 → evl (fun i => WT (7 * k + i)) 7 = rwp.getD k 0 := by decide +kernel
theorem pc_rng {B : Nat → Int} (hB : ∀ q, 0 ≤ B q ∧ B q ≤ 255) (q len i : Nat) : 0 ≤ pc B q len i ∧ pc B q len i ≤ 255 := by
  unfold pc
  split
  · exact hB _
  · omega
theorem pv_word {B : Nat → Int} (hB : ∀ q, 0 ≤ B q ∧ B q ≤ 255) {q len k : Nat} (hk : k < 25) : pv B q len = rwp.getD k 0 ↔ ∀ i, i < 7 → pc B q len i = WT (7 * k + i) := by
  rw [← WT_pv k hk]
  exact evl_inj (fun i _ => pc_rng hB q len i) (fun i hi => WT_rng _ (by omega))
theorem bl_at {hp : ab_H} {a i j : Nat} {w : Int64} (h : sf_rl hp a i = some w) (e : i = j) : sf_rl hp a j = some w := e ▸ h
theorem bv_mask {hp : ab_H} {a n n' q : Nat} (h : q < n) (h' : q < n') : bv hp a n q = bv hp a n' q := by
  unfold bv
  rw [if_pos h, if_pos h']
theorem pv_mask {hp : ab_H} {a n n' q len : Nat} (h : len = 0 ∨ (q + len ≤ n ∧ q + len ≤ n')) : pv (bv hp a n) q len = pv (bv hp a n') q len := by
  have e : pc (bv hp a n) q len = pc (bv hp a n') q len := funext fun i => by
    unfold pc
    split
    · exact bv_mask (by omega) (by omega)
    · rfl
  unfold pv
  rw [e]
abbrev AD (hp hp' : ab_H) (m k p : Int) (w : Int64) : Prop := sf_rd hp' 3 3 = some (m + 1) ∧ sf_rd hp' 4 m.toNat = some k ∧ sf_rd hp' 5 m.toNat = some p ∧ sf_rl hp' 6 m.toNat = some w ∧ (∀ q, q ≠ m.toNat → sf_rd hp' 4 q = sf_rd hp 4 q ∧ sf_rd hp' 5 q = sf_rd hp 5 q ∧ sf_rl hp' 6 q = sf_rl hp 6 q)
def dg (d : Int) : Int := if d ≤ 96 then 0 else d - 96
def c32 : Nat → Int → Int
  | 0, _ => 0
  | f + 1, v => c32 f (v / 256) * 32 + dg (v % 256)
def LW : Nat → Int → Prop
  | 0, v => v = 0
  | f + 1, v => LW f (v / 256) ∧ (v % 256 = 0 ∨ (97 ≤ v % 256 ∧ v % 256 ≤ 122)) ∧ 0 ≤ v
theorem c32_inj : ∀ {f : Nat} {v w : Int}, LW f v → LW f w → c32 f v = c32 f w → v = w
  | 0, v, w, hv, hw, _ => hv.trans hw.symm
  | f + 1, v, w, hv, hw, e => by
    have e' : c32 f (v / 256) * 32 + dg (v % 256) = c32 f (w / 256) * 32 + dg (w % 256) := e
    have a1 := hv.2.1
    have a2 := hw.2.1
    have dv : 0 ≤ dg (v % 256) ∧ dg (v % 256) ≤ 26 := by
      unfold dg
      split <;> omega
    have dw : 0 ≤ dg (w % 256) ∧ dg (w % 256) ≤ 26 := by
      unfold dg
      split <;> omega
    have h1 : c32 f (v / 256) = c32 f (w / 256) := by omega
    have h2 := c32_inj hv.1 hw.1 h1
    have h3 : dg (v % 256) = dg (w % 256) := by omega
    have h4 : v % 256 = w % 256 := by
      unfold dg at h3
      split at h3 <;> split at h3 <;> omega
    omega
theorem wd_lw {B : Nat → Int} {q : Nat} : ∀ {l : Nat}, allP tk_l B q l = true → LW l (wd B q l) ∧ c32 l (wd B q l) = w32 B q l
  | 0, _ => ⟨rfl, rfl⟩
  | l + 1, h => by
    have h' : (allP tk_l B q l && tk_l (B (q + l))) = true := h
    obtain ⟨h1, h2⟩ : allP tk_l B q l = true ∧ tk_l (B (q + l)) = true := by simpa using h'
    obtain ⟨i1, i2⟩ := wd_lw h1
    have h3 := tk_l_i h2
    have e1 : (wd B q l * 256 + B (q + l)) / 256 = wd B q l := by omega
    have e2 : (wd B q l * 256 + B (q + l)) % 256 = B (q + l) := by omega
    have pos : 0 ≤ wd B q l := by
      cases l with
      | zero => exact Int.le_refl 0
      | succ l => exact i1.2.2
    refine ⟨⟨?_, ?_, ?_⟩, ?_⟩
    · show LW l ((wd B q l * 256 + B (q + l)) / 256)
      rw [e1]
      exact i1
    · show (wd B q l * 256 + B (q + l)) % 256 = 0 ∨ (97 ≤ (wd B q l * 256 + B (q + l)) % 256 ∧ (wd B q l * 256 + B (q + l)) % 256 ≤ 122)
      rw [e2]
      exact Or.inr h3
    · show 0 ≤ wd B q l * 256 + B (q + l)
      omega
    · show c32 l ((wd B q l * 256 + B (q + l)) / 256) * 32 + dg ((wd B q l * 256 + B (q + l)) % 256) = w32 B q l * 32 + (B (q + l) - 96)
      rw [e1, e2, i2]
      unfold dg
      rw [if_neg (by omega)]
theorem LW_up : ∀ {f : Nat} {v : Int}, LW f v → LW (f + 1) v ∧ c32 (f + 1) v = c32 f v
  | 0, v, h => by
    have h' : v = 0 := h
    subst h'
    exact ⟨⟨rfl, Or.inl rfl, Int.le_refl 0⟩, rfl⟩
  | f + 1, v, h => by
    obtain ⟨h1, h2⟩ := LW_up h.1
    refine ⟨⟨h1, h.2.1, h.2.2⟩, ?_⟩
    show c32 (f + 1) (v / 256) * 32 + dg (v % 256) = c32 f (v / 256) * 32 + dg (v % 256)
    rw [h2]
theorem LW_to {l : Nat} {v : Int} (h : LW l v) : ∀ d : Nat, LW (l + d) v ∧ c32 (l + d) v = c32 l v
  | 0 => ⟨h, rfl⟩
  | d + 1 => by
    obtain ⟨h1, h2⟩ := LW_to h d
    obtain ⟨h3, h4⟩ := LW_up h1
    exact ⟨h3, h4.trans h2⟩
theorem wd_nm {B : Nat → Int} {q m : Nat} (h : allP tk_l B q m = true) (hm : m ≤ 7) : LW 7 (wd B q m) ∧ c32 7 (wd B q m) = w32 B q m := by
  obtain ⟨h1, h2⟩ := wd_lw h
  obtain ⟨h3, h4⟩ := LW_to h1 (7 - m)
  rw [show m + (7 - m) = 7 by omega] at h3 h4
  exact ⟨h3, h4.trans h2⟩
abbrev tvr (T : TT) (w : Int64) : Prop := (T.k = 3 → w.toInt = T.v) ∧ (T.k = 2 → w.toInt = c32 7 T.v)
abbrev ADT (hp hp' : ab_H) (m : Int) (T : TT) : Prop := ∃ w, AD hp hp' m T.k T.pl w ∧ tvr T w
theorem w32_rng {B : Nat → Int} {q : Nat} : ∀ {l : Nat}, allP tk_l B q l = true → l ≤ 7 → 0 ≤ w32 B q l ∧ w32 B q l < 34359738368 ∧ (l = 0 → w32 B q l = 0) ∧ (l ≤ 1 → w32 B q l < 32) ∧ (l ≤ 2 → w32 B q l < 1024) ∧ (l ≤ 3 → w32 B q l < 32768) ∧ (l ≤ 4 → w32 B q l < 1048576) ∧ (l ≤ 5 → w32 B q l < 33554432) ∧ (l ≤ 6 → w32 B q l < 1073741824)
  | 0, _, _ => by
    have e : w32 B q 0 = 0 := rfl
    exact ⟨by omega, by omega, fun _ => by omega, fun _ => by omega, fun _ => by omega, fun _ => by omega, fun _ => by omega, fun _ => by omega, fun _ => by omega⟩
  | l + 1, h, hl => by
    have h' : (allP tk_l B q l && tk_l (B (q + l))) = true := h
    obtain ⟨h1, h2⟩ : allP tk_l B q l = true ∧ tk_l (B (q + l)) = true := by simpa using h'
    obtain ⟨i1, i2, i3, i4, i5, i6, i7, i8, i9⟩ := w32_rng h1 (by omega)
    have h3 := tk_l_i h2
    have e : w32 B q (l + 1) = w32 B q l * 32 + (B (q + l) - 96) := rfl
    rw [e]
    rcases (show l = 0 ∨ l = 1 ∨ l = 2 ∨ l = 3 ∨ l = 4 ∨ l = 5 ∨ l = 6 by omega) with c | c | c | c | c | c | c
    all_goals
      subst c
      skip
      refine ⟨by omega, by omega, fun g => by omega, fun g => by omega, fun g => by omega, fun g => by omega, fun g => by omega, fun g => by omega, fun g => by omega⟩
theorem nb_rng {B : Nat → Int} {q : Nat} : ∀ {l : Nat}, allP tk_d B q l = true → l ≤ 3 → 0 ≤ nb B q l ∧ nb B q l ≤ 999 ∧ (l = 0 → nb B q l = 0) ∧ (l ≤ 1 → nb B q l ≤ 9) ∧ (l ≤ 2 → nb B q l ≤ 99)
  | 0, _, _ => by
    have e : nb B q 0 = 0 := rfl
    exact ⟨by omega, by omega, fun _ => by omega, fun _ => by omega, fun _ => by omega⟩
  | l + 1, h, hl => by
    have h' : (allP tk_d B q l && tk_d (B (q + l))) = true := h
    obtain ⟨h1, h2⟩ : allP tk_d B q l = true ∧ tk_d (B (q + l)) = true := by simpa using h'
    obtain ⟨i1, i2, i3, i4, i5⟩ := nb_rng h1 (by omega)
    have h3 := tk_d_i h2
    have e : nb B q (l + 1) = nb B q l * 10 + (B (q + l) - 48) := rfl
    rw [e]
    rcases (show l = 0 ∨ l = 1 ∨ l = 2 by omega) with c | c | c
    all_goals
      subst c
      skip
      refine ⟨by omega, by omega, fun g => by omega, fun g => by omega, fun g => by omega⟩
theorem allP_s {P : Int → Bool} {B : Nat → Int} {q m : Nat} (h : P (B (q + m)) = true) : allP P B q (m + 1) = allP P B q m := by
  show (allP P B q m && P (B (q + m))) = _
  rw [h, Bool.and_true]
theorem allP_n {P : Int → Bool} {B : Nat → Int} {q m : Nat} (h : P (B (q + m)) = false) : allP P B q (m + 1) = false := by
  show (allP P B q m && P (B (q + m))) = _
  rw [h, Bool.and_false]
def TU (hp hp' : ab_H) : Prop := hp'.2 3 = hp.2 3 ∧ hp'.2 4 = hp.2 4 ∧ hp'.2 5 = hp.2 5 ∧ hp'.2 6 = hp.2 6
theorem TU.rf {hp : ab_H} : TU hp hp := ⟨rfl, rfl, rfl, rfl⟩
theorem TU.tr {hp hp' hp'' : ab_H} (h : TU hp hp') (h' : TU hp' hp'') : TU hp hp'' := ⟨h'.1.trans h.1, h'.2.1.trans h.2.1, h'.2.2.1.trans h.2.2.1, h'.2.2.2.trans h.2.2.2⟩
theorem TU_fr {W : List (Nat × Nat × Nat)} {t t' : Nat → Nat} {hp hp' : ab_H} (H : sf_h t hp) (f : sf_fr W t hp t' hp') (h9 : W.all (fun w => decide (w.1 ≠ 9)) = true) (h4 : W.all (fun w => decide (w.1 ≠ 124)) = true) (h5 : W.all (fun w => decide (w.1 ≠ 125)) = true) (h6 : W.all (fun w => decide (w.1 ≠ 126)) = true) : TU hp hp' := by
  have r9 : bs_R t hp 3 9 := bs_R.uq H rfl
  have r4 : bs_R t hp 4 124 := bs_R.uq H rfl
  have r5 : bs_R t hp 5 125 := bs_R.uq H rfl
  have r6 : bs_R t hp 6 126 := bs_R.uq H rfl
  exact ⟨f.2.2.2.1 _ r9.1 (by rw [r9.2]; exact h9), f.2.2.2.1 _ r4.1 (by rw [r4.2]; exact h4), f.2.2.2.1 _ r5.1 (by rw [r5.2]; exact h5), f.2.2.2.1 _ r6.1 (by rw [r6.2]; exact h6)⟩
theorem AD_TU {hp hp1 hp2 : ab_H} {m k p : Int} {w : Int64} (h : TU hp hp1) (a : AD hp1 hp2 m k p w) : AD hp hp2 m k p w :=
  ⟨a.1, a.2.1, a.2.2.1, a.2.2.2.1, fun q hq => ⟨(a.2.2.2.2 q hq).1.trans (sf_rd_cell h.2.1), (a.2.2.2.2 q hq).2.1.trans (sf_rd_cell h.2.2.1), (a.2.2.2.2 q hq).2.2.trans (sf_rl_cell h.2.2.2)⟩⟩
theorem nm_step {w : Int64} {c : Int32} {a : Int} (h : w.toInt = a) (a0 : 0 ≤ a) (a1 : a < 34359738368) (c0 : 97 ≤ c.toInt) (c1 : c.toInt ≤ 122) : ((((w * (32 : Int64)) + (c.toInt64)) - (97 : Int64)) + (1 : Int64)).toInt = a * 32 + (c.toInt - 96) := by
  have e32 : (32 : Int64).toInt = 32 := rfl
  have e97 : (97 : Int64).toInt = 97 := rfl
  have e1 : (1 : Int64).toInt = 1 := rfl
  have ec : c.toInt64.toInt = c.toInt := Int32.toInt_toInt64 c
  have h1 : (w * (32 : Int64)).toInt = a * 32 := by rw [l_mul (by rw [e32, h]; omega) (by rw [e32, h]; omega), e32, h]
  have h2 : ((w * (32 : Int64)) + (c.toInt64)).toInt = a * 32 + c.toInt := by rw [l_add (by rw [h1, ec]; omega) (by rw [h1, ec]; omega), h1, ec]
  have h3 : (((w * (32 : Int64)) + (c.toInt64)) - (97 : Int64)).toInt = a * 32 + c.toInt - 97 := by rw [l_sub (by rw [h2, e97]; omega) (by rw [h2, e97]; omega), h2, e97]
  rw [l_add (by rw [h3, e1]; omega) (by rw [h3, e1]; omega), h3, e1]
  omega
theorem AD_back {hp h1 h2 : ab_H} {m k p : Int} {w : Int64} (a : AD hp h1 m k p w) (e4 : ∀ q, sf_rd h2 4 q = sf_rd h1 4 q) (e5 : ∀ q, sf_rd h2 5 q = sf_rd h1 5 q) (e6 : ∀ q, sf_rl h2 6 q = sf_rl h1 6 q) (e3 : sf_rd h2 3 3 = sf_rd h1 3 3) : AD hp h2 m k p w :=
  ⟨e3.trans a.1, (e4 _).trans a.2.1, (e5 _).trans a.2.2.1, (e6 _).trans a.2.2.2.1, fun q hq => ⟨(e4 q).trans (a.2.2.2.2 q hq).1, (e5 q).trans (a.2.2.2.2 q hq).2.1, (e6 q).trans (a.2.2.2.2 q hq).2.2⟩⟩
theorem tsg_v {c a : Int} {n : Nat} {w : Int64} : tvr ⟨tsg c, a, 0, n⟩ w := ⟨fun e => absurd e (tsg_ne c).1, fun e => absurd e (tsg_ne c).2.1⟩
def tct (B : Nat → Int) (n p : Nat) : TT := if tk_r (B p) = true then trn B p (tk_e tk_r B n p - p) else ⟨tsg (B p), p, 0, p + 1⟩
def mv_l (as : List Value) : Nat := match as with
  | [_, _, .int x] => x.toInt.toNat
  | _ => 0
abbrev TKJ (hp : ab_H) (B : Nat → Int) (n lim j : Nat) : Prop := sf_rd hp 4 j = some (tok B n lim j).k ∧ sf_rd hp 5 j = some (tok B n lim j).pl ∧ ∃ w, sf_rl hp 6 j = some w ∧ tvr (tok B n lim j) w
theorem TKJ_TU {hp hp' : ab_H} {B : Nat → Int} {n lim j : Nat} (h : TKJ hp B n lim j) (u : TU hp hp') : TKJ hp' B n lim j := by
  obtain ⟨h1, h2, w, h3, h4⟩ := h
  exact ⟨(sf_rd_cell u.2.1).trans h1, (sf_rd_cell u.2.2.1).trans h2, w, (sf_rl_cell u.2.2.2).trans h3, h4⟩
theorem TKJ_AD {hp hp' : ab_H} {B : Nat → Int} {n lim j : Nat} {m k p : Int} {w : Int64} (h : TKJ hp B n lim j) (a : AD hp hp' m k p w) (hj : j ≠ m.toNat) : TKJ hp' B n lim j := by
  obtain ⟨h1, h2, w', h3, h4⟩ := h
  obtain ⟨a1, a2, a3⟩ := a.2.2.2.2 j hj
  exact ⟨a1.trans h1, a2.trans h2, w', a3.trans h3, h4⟩
abbrev NE (B : Nat → Int) (n lim j : Nat) : Prop := (tok B n lim j).k ≠ 0 ∧ (tok B n lim j).k ≠ 1
theorem tok_bound {B : Nat → Int} {n lim : Nat} : ∀ {k : Nat}, (∀ j, j < k → NE B n lim j) → k ≤ lim
  | 0, _ => Nat.zero_le _
  | k + 1, h => by
    have h1 := tkq_mv (B := B) (n := n) (lim := lim) (q := tk_e tk_b B n (tps B n lim k)) (h k (by omega)).1 (h k (by omega)).2
    have h2 := tps_le (B := B) (n := n) (lim := lim) (i := k) fun j hj => h j (by omega)
    have h3 := tk_e_ge (P := tk_b) (B := B) (n := n) (p := tps B n lim k)
    omega
theorem tct_ne0 (B : Nat → Int) (n p : Nat) : (tct B n p).k ≠ 0 := by
  unfold tct
  split
  · unfold trn
    split
    · have := kw_rng (pv B p (tk_e tk_r B n p - p))
      show kw _ ≠ 0
      omega
    · split
      · show (3 : Int) ≠ 0
        decide
      · show (1 : Int) ≠ 0
        decide
  · exact (tsg_ne _).2.2
theorem tok_cut {B : Nat → Int} {n lim k q : Nat} (hq : q = tk_e tk_b B n (tps B n lim k)) (h1 : q < n) (h2 : q < lim) : tok B n lim k = tct B n q := by
  show tkq B n lim (tk_e tk_b B n (tps B n lim k)) = _
  rw [← hq]
  unfold tkq tct
  rw [if_neg (by omega), if_neg (by omega)]
theorem tok_none {B : Nat → Int} {n lim k q : Nat} (hq : q = tk_e tk_b B n (tps B n lim k)) (h1 : lim < n) (h2 : lim ≤ q) : tok B n lim k = ⟨1, lim, 0, q⟩ := by
  show tkq B n lim (tk_e tk_b B n (tps B n lim k)) = _
  rw [← hq]
  unfold tkq
  rw [if_pos ⟨h1, h2⟩]
theorem tok_end {B : Nat → Int} {n lim k q : Nat} (hq : q = tk_e tk_b B n (tps B n lim k)) (h1 : n ≤ lim) (h2 : n ≤ q) : tok B n lim k = ⟨0, n, 0, q⟩ := by
  show tkq B n lim (tk_e tk_b B n (tps B n lim k)) = _
  rw [← hq]
  unfold tkq
  rw [if_neg (by omega), if_pos h2]
abbrev TKS (hp : ab_H) (B : Nat → Int) (n lim m : Nat) : Prop := 1 ≤ m ∧ m ≤ 901 ∧ sf_rd hp 3 3 = some (m : Int) ∧ (∀ j, j < m → TKJ hp B n lim j) ∧ (∀ j, j + 1 < m → (tok B n lim j).k ≠ 0 ∧ (tok B n lim j).k ≠ 1) ∧ ((tok B n lim (m - 1)).k = 0 ∨ (tok B n lim (m - 1)).k = 1)
