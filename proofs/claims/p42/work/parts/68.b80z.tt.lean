theorem tk_ge {P : Int → Bool} {B : Nat → Int} {n : Nat} : ∀ (f p : Nat), p ≤ tk_w P B n f p
  | 0, p => Nat.le_refl p
  | f + 1, p => by
    show p ≤ cond (decide (p < n) && P (B p)) (tk_w P B n f (p + 1)) p
    cases (decide (p < n) && P (B p)) with
    | false => exact Nat.le_refl p
    | true => exact Nat.le_trans (Nat.le_succ p) (tk_ge f (p + 1))
theorem tk_le {P : Int → Bool} {B : Nat → Int} {n : Nat} : ∀ (f p : Nat), p ≤ n → tk_w P B n f p ≤ n
  | 0, p, h => h
  | f + 1, p, h => by
    show cond (decide (p < n) && P (B p)) (tk_w P B n f (p + 1)) p ≤ n
    by_cases c : p < n
    · rw [decide_eq_true c]
      cases P (B p) with
      | false => exact h
      | true => exact tk_le f (p + 1) c
    · rw [decide_eq_false c]
      exact h
def tps (B : Nat → Int) (n lim : Nat) : Nat → Nat
  | 0 => 0
  | i + 1 => (tkt B n lim (tps B n lim i)).nx
def tok (B : Nat → Int) (n lim i : Nat) : TT := tkt B n lim (tps B n lim i)
theorem trn_nx (B : Nat → Int) (q m : Nat) : (trn B q m).nx = q + m := by
  unfold trn
  split
  · rfl
  · split <;> rfl
theorem tk_e_ge {P : Int → Bool} {B : Nat → Int} {n p : Nat} : p ≤ tk_e P B n p := tk_ge _ _
theorem tk_e_le {P : Int → Bool} {B : Nat → Int} {n p : Nat} (h : p ≤ n) : tk_e P B n p ≤ n := tk_le _ _ h
theorem tkq_n {B : Nat → Int} {n lim q : Nat} (h : q ≤ n) : (tkq B n lim q).nx ≤ n := by
  unfold tkq
  split
  · exact h
  · split
    · exact h
    · split
      · rw [trn_nx]
        have := tk_e_le (P := tk_r) (B := B) h
        have := tk_e_ge (P := tk_r) (B := B) (n := n) (p := q)
        omega
      · show q + 1 ≤ n
        omega
theorem rkk_2 {k : Int} (h : rkk k = 2) : k = 3 := by
  unfold rkk at h
  split at h
  · omega
  · split at h
    · omega
    · split at h
      · assumption
      · split at h <;> omega
