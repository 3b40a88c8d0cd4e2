/-! ===== a LOG is judged ===== -/
/-- what is wrong with a line: 0 nothing -/
def jw (S : Sh) (y : Nat × Nat × Nat) : Int32 := if y.1 = 4 then (if h_d S + y.2.2 ≤ 400 then 0 else 41) else if m_why y.1 S y.2.1 (Int32.ofNat y.2.2) = 0 then 0 else Int32.ofNat (10 * y.1) + m_why y.1 S y.2.1 (Int32.ofNat y.2.2)
/-- as it is after it -/
def js (T : St) (S : Sh) (y : Nat × Nat × Nat) : Sh := if y.1 = 4 then (if h_d S + y.2.2 ≤ 400 then m_days T S y.2.2 else S) else m_try y.1 S y.2.1 (Int32.ofNat y.2.2)
def jr (T : St) (L : LN) (S : Sh) : Nat → Sh
  | 0 => S
  | k + 1 => js T (jr T L S k) (L k)
/-- is this line wrong -/
def jP (T : St) (L : LN) (S : Sh) (k : Nat) : Bool := !decide (jw (jr T L S k) (L k) = 0)
/-- a line that a text can hold -/
def LYK (T : St) (y : Nat × Nat × Nat) : Prop := y.1 ≤ 4 ∧ (y.1 < 3 → y.2.1 < 12 ∧ 1 ≤ y.2.2 ∧ y.2.2 ≤ 250) ∧ (y.1 = 3 → y.2.1 < t_m T ∧ y.2.2 = 0) ∧ (y.1 = 4 → 1 ≤ y.2.2 ∧ y.2.2 ≤ 60)
theorem js_w {T : St} {S : Sh} {y : Nat × Nat × Nat} (hy : y.1 ≤ 4) (h : ¬ jw S y = 0) : js T S y = S := by
  unfold jw at h
  unfold js
  by_cases c : y.1 = 4
  · rw [if_pos c] at h ⊢
    by_cases e : h_d S + y.2.2 ≤ 400
    · rw [if_pos e] at h
      exact absurd rfl h
    · rw [if_neg e]
  · rw [if_neg c] at h ⊢
    by_cases e : m_why y.1 S y.2.1 (Int32.ofNat y.2.2) = 0
    · rw [if_pos e] at h
      exact absurd rfl h
    · exact if_neg e
theorem INV_js {T : St} {S : Sh} {y : Nat × Nat × Nat} (hT : TBB T) (hg : t_g T ≤ 6) (h : INV T S) (hy : LYK T y) : INV T (js T S y) := by
  unfold js
  by_cases c : y.1 = 4
  · rw [if_pos c]
    split
    · exact INV_days hT hg h _
    · exact h
  · rw [if_neg c]
    by_cases c3 : y.1 = 3
    · rw [c3, (hy.2.2.1 c3).2]
      exact INV_try3 h
    · have k := hy.2.1 (by have := hy.1; omega)
      exact INV_try h (by have := hy.1; omega) k.1 k.2.2
theorem INV_jr {T : St} {L : LN} {S : Sh} (hT : TBB T) (hg : t_g T ≤ 6) (h : INV T S) : ∀ n, (∀ l, l < n → LYK T (L l)) → INV T (jr T L S n)
  | 0, _ => h
  | n + 1, k => INV_js hT hg (INV_jr hT hg h n fun l hl => k l (by omega)) (k n (Nat.lt_succ_self n))
theorem ll_num_y {X : TT} {lo hi : Int} {j : Nat} {K : Nat → LL} {d w x i : Nat} (h : ll_num X lo hi j K = ll_y d w x i) : (lo ≤ X.v ∧ X.v ≤ hi) ∧ K X.v.toNat = ll_y d w x i := by
  unfold ll_num at h
  by_cases c : tnN X lo hi = 0
  · rw [if_pos c] at h
    exact ⟨(tnN_k c).2, h⟩
  · rw [if_neg c] at h
    cases h
theorem ll_ok {K : Nat → TT} {nm : Nat → Int} {T : St} {c i d w x j : Nat} (hg : t_g T ≤ 6) (e : ll K nm (t_g T) (t_m T) c i = ll_y d w x j) : LYK T (d, w, x) := by
  have c40 := ll_40 e
  unfold ll at e
  by_cases a : 72 ≤ (K i).k ∧ (K i).k ≤ 74
  · rw [if_pos a, if_neg (by omega)] at e
    unfold ll_deed at e
    split at e
    · split at e
      · cases e
      · rename_i g hq
        have b := (m_fst_lt hq).1
        obtain ⟨h1, e1⟩ := ll_num_y e
        obtain ⟨h2, e2⟩ := ll_num_y e1
        cases e2
        exact ⟨by show ((K i).k - 72).toNat ≤ 4; omega, fun _ => ⟨by show 2 * g + _ < 12; omega, by show 1 ≤ (K (i + 3)).v.toNat; omega, by show (K (i + 3)).v.toNat ≤ 250; omega⟩, fun h => absurd (show ((K i).k - 72).toNat = 3 from h) (by omega), fun h => absurd (show ((K i).k - 72).toNat = 4 from h) (by omega)⟩
    · cases e
  · rw [if_neg a] at e
    by_cases b : (K i).k = 76
    · rw [if_pos b, if_neg (by omega)] at e
      unfold ll_days at e
      obtain ⟨h1, e1⟩ := ll_num_y e
      cases e1
      exact ⟨Nat.le_refl 4, fun h => absurd (show 4 < 3 from h) (by decide), fun h => absurd (show 4 = 3 from h) (by decide), fun _ => ⟨by show 1 ≤ (K (i + 1)).v.toNat; omega, by show (K (i + 1)).v.toNat ≤ 60; omega⟩⟩
    · rw [if_neg b] at e
      split at e
      · split at e
        · cases e
        · rename_i u hu
          have l := (m_fst_lt hu).1
          rw [if_neg (by omega)] at e
          unfold ll_death at e
          split at e
          · cases e
            exact ⟨show 3 ≤ 4 by decide, fun h => absurd (show 3 < 3 from h) (by decide), fun _ => ⟨l, rfl⟩, fun h => absurd (show 3 = 4 from h) (by decide)⟩
          · cases e
      · cases e
theorem f_attempt4 {F : FW} {p d w x : Nat} {T : St} {S : Sh} (hS : SHR F p (t_m T) S) (hm : t_m T ≤ 8) (hL : LYK T (d, w, x)) (h4 : ¬ d = 4) : Pm Z_X6_attempt [.ref p, .int (Int32.ofNat d), .int (Int32.ofNat w), .int (Int32.ofNat x)] F (fun r F' => r = some (.int (m_why d S w (Int32.ofNat x))) ∧ FX (fun q => p ≤ q ∧ q ≤ p + 7) F F' ∧ SHR F' p (t_m T) (m_try d S w (Int32.ofNat x))) := by
  have h1 : d ≤ 4 := hL.1
  by_cases c : d = 3
  · subst c
    have k := hL.2.2.1 rfl
    have k2 : x = 0 := k.2
    subst k2
    exact f_attempt3 hS k.1 hm
  · have k := hL.2.1 (show d < 3 by omega)
    have k2 : 1 ≤ x ∧ x ≤ 250 := k.2
    exact f_attempt hS k.1 (by omega) (by omega)
