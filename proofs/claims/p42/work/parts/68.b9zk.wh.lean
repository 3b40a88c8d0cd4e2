/-! ===== which, by two tapes alike ===== -/
theorem m_wh_c {T : St} {k : Nat} {B C : Nat → Int32} : ∀ i, (∀ q, q < i + 2 → B q = C q) → m_wh T k B i = m_wh T k C i
  | 0, _ => rfl
  | i + 1, h => by
    have e := m_wh_c (T := T) (k := k) i (fun q hq => h q (by omega))
    show (m_wh T k B i && decide (ab_max 0 (m_left T k (B (i + 1))) = B (i + 2))) = (m_wh T k C i && decide (ab_max 0 (m_left T k (C (i + 1))) = C (i + 2)))
    rw [e, h (i + 1) (by omega), h (i + 2) (by omega)]
theorem a_which_c {T : St} {n : Nat} {B C : Nat → Int32} (h : ∀ q, q < n → B q = C q) : a_which T n B = a_which T n C := by
  unfold a_which
  by_cases c : 3 ≤ n ∧ n ≤ 31
  · rw [if_pos c, if_pos c, h 0 (by omega)]
    have e : ∀ s, (fun g => m_wh T (2 * g + s) B (n - 2)) = (fun g => m_wh T (2 * g + s) C (n - 2)) := fun s => funext fun g => m_wh_c (n - 2) (fun q hq => h q (by omega))
    cases nd 2 (C 0) with
    | none => rfl
    | some s =>
      show m_bits (fun g => m_wh T (2 * g + s) B (n - 2)) id (t_g T) = m_bits (fun g => m_wh T (2 * g + s) C (n - 2)) id (t_g T)
      rw [e s]
  · rw [if_neg c, if_neg c]
theorem lw_which {t t1 : Nat → Nat} {hp hp1 : ab_H} {tn : Nat} {T : St} (H : sf_h t hp) (H1 : sf_h t1 hp1) (htn : tn ≤ 940) (hb : bv hp1 70 tn = bv hp 2 tn) : a_which T tn (fun q => (fl hp).1 2 q &&& 255) = a_which T tn (fun q => (fl hp1).1 70 q &&& 255) := a_which_c fun q hq => by
  have h1 := congrFun (RBF_bv H1 htn) q
  rw [hb] at h1
  unfold RBF bv at h1
  rw [if_pos hq, if_pos hq, el_rd H (g := 123) (n := 940) rfl (by decide) (by decide) (by decide) rfl (by omega)] at h1
  exact Int32.toInt_inj.mp ((n_and255 _).trans h1.symm)
