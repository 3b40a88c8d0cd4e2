/-! ===== how far a run has to go; when one knowledge is another's part ===== -/
abbrev sf_T : Type := Nat × Nat × Int × Nat
abbrev sf_M : Type := Nat × List sf_T
/-- times, local, bound; 0: from below, 1: from above -/
def sf_mt (lo : List (Option Value)) (c : sf_T) : Nat := c.1 * (match sf_iv (lo[c.2.1]?).join with
  | some x => (cond (decide (c.2.2.2 = 0)) (c.2.2.1 - x) (x - c.2.2.1)).toNat
  | none => 0)
def sf_ms (lo : List (Option Value)) (l : List sf_T) : Nat := (l.map (sf_mt lo)).sum
def sf_mu (m : sf_M) (lo : List (Option Value)) : Nat := m.1 + sf_ms lo m.2
def sf_ub (F : List sf_F) (l : List sf_T) : Nat := (l.map (fun c => c.1 * (cond (decide (c.2.2.2 = 0)) (c.2.2.1 - (sf_i F (3 * c.2.1 + 1)).1) ((sf_i F (3 * c.2.1 + 1)).2 - c.2.2.1)).toNat)).sum
theorem sf_val_lc {lo : List (Option Value)} {st : List Value} {r : (Nat × Nat) × ab_H} {i : Nat} : sf_val (lo, st, r) (3 * i + 1) = sf_iv (lo[i]?).join := by
  unfold sf_val
  rw [decide_eq_false (show ¬ (3 * i + 1) % 3 = 0 by omega), decide_eq_true (show (3 * i + 1) % 3 = 1 by omega), show (3 * i + 1) / 3 = i by omega]
  rfl
theorem sf_ub_ok {F : List sf_F} {lo : List (Option Value)} {st : List Value} {r : (Nat × Nat) × ab_H} (hF : sf_S (sf_val (lo, st, r)) F) : ∀ (l : List sf_T), sf_ms lo l ≤ sf_ub F l
  | [] => Nat.le_refl _
  | c :: l => by
    have ih := sf_ub_ok hF l
    have h : sf_mt lo c ≤ c.1 * (cond (decide (c.2.2.2 = 0)) (c.2.2.1 - (sf_i F (3 * c.2.1 + 1)).1) ((sf_i F (3 * c.2.1 + 1)).2 - c.2.2.1)).toNat := by
      unfold sf_mt
      refine Nat.mul_le_mul_left _ ?_
      cases hx : sf_iv (lo[c.2.1]?).join with
      | none => exact Nat.zero_le _
      | some x =>
        have vx : sf_val (lo, st, r) (3 * c.2.1 + 1) = some x := sf_val_lc.trans hx
        have rx := sf_i_ok (sf_val_range _) hF vx
        show (cond (decide (c.2.2.2 = 0)) (c.2.2.1 - x) (x - c.2.2.1)).toNat ≤ _
        by_cases e : c.2.2.2 = 0
        · rw [decide_eq_true e]
          show (c.2.2.1 - x).toNat ≤ (c.2.2.1 - (sf_i F (3 * c.2.1 + 1)).1).toNat
          omega
        · rw [decide_eq_false e]
          show (x - c.2.2.1).toNat ≤ ((sf_i F (3 * c.2.1 + 1)).2 - c.2.2.1).toNat
          omega
    show (sf_mt lo c + sf_ms lo l) ≤ _ + sf_ub F l
    exact Nat.add_le_add h ih
/-- the counter of c comes nearer by this step -/
def sf_dn (q : sf_I) (F : List sf_F) (c : sf_T) : Bool := decide (q.1 = 8) && decide (sf_n0 q.2 1 = c.2.1) &&
  cond (decide (c.2.2.2 = 0)) (decide (0 < (Int32.ofInt (q.2.getD 2 0)).toInt) && decide ((sf_i F (3 * c.2.1 + 1)).2 + (Int32.ofInt (q.2.getD 2 0)).toInt ≤ c.2.2.1) && decide (c.2.2.1 ≤ 2147483647))
    (decide ((Int32.ofInt (q.2.getD 2 0)).toInt < 0) && decide (c.2.2.1 ≤ (sf_i F (3 * c.2.1 + 1)).1 + (Int32.ofInt (q.2.getD 2 0)).toInt) && decide (-2147483648 ≤ c.2.2.1))
theorem sf_dn_ok {E : List sf_X} {q : sf_I} {F : List sf_F} {c : sf_T} {s s' : ab_S} {j : Nat} (hF : sf_S (sf_val s) F) (hs : sf_den E q s = some (.inl (j, s'))) (h : sf_dn q F c = true) : sf_mt s'.1 c + c.1 ≤ sf_mt s.1 c := by
  unfold sf_dn at h
  rw [Bool.and_eq_true, Bool.and_eq_true, decide_eq_true_eq, decide_eq_true_eq] at h
  obtain ⟨⟨h1, h2⟩, h3⟩ := h
  obtain ⟨n, a⟩ := q
  have h1' : n = 8 := h1
  subst h1'
  obtain ⟨x, e1, e2⟩ := sf_inc_ok hs
  have h2' : sf_n0 a 1 = c.2.1 := h2
  rw [h2'] at e1 e2
  obtain ⟨lo, st, r⟩ := s
  have vx : sf_val (lo, st, r) (3 * c.2.1 + 1) = some x.toInt := by
    rw [sf_val_lc]
    show sf_iv (lo[c.2.1]?).join = _
    rw [show lo[c.2.1]? = some (some (.int x)) from e1]
    rfl
  have rx := sf_i_ok (sf_val_range _) hF vx
  have g1 : sf_mt (lo, st, r).1 c = c.1 * (cond (decide (c.2.2.2 = 0)) (c.2.2.1 - x.toInt) (x.toInt - c.2.2.1)).toNat := by
    unfold sf_mt
    rw [e1]
    rfl
  have g2 : sf_mt s'.1 c = c.1 * (cond (decide (c.2.2.2 = 0)) (c.2.2.1 - (x + Int32.ofInt (a.getD 2 0)).toInt) ((x + Int32.ofInt (a.getD 2 0)).toInt - c.2.2.1)).toNat := by
    unfold sf_mt
    rw [e2]
    rfl
  have nx := n_range x
  have key : (cond (decide (c.2.2.2 = 0)) (c.2.2.1 - (x + Int32.ofInt (a.getD 2 0)).toInt) ((x + Int32.ofInt (a.getD 2 0)).toInt - c.2.2.1)).toNat + 1 ≤ (cond (decide (c.2.2.2 = 0)) (c.2.2.1 - x.toInt) (x.toInt - c.2.2.1)).toNat := by
    by_cases e : c.2.2.2 = 0
    · rw [decide_eq_true e] at h3 ⊢
      replace h3 : (decide (0 < (Int32.ofInt (a.getD 2 0)).toInt) && decide ((sf_i F (3 * c.2.1 + 1)).2 + (Int32.ofInt (a.getD 2 0)).toInt ≤ c.2.2.1) && decide (c.2.2.1 ≤ 2147483647)) = true := h3
      simp only [Bool.and_eq_true, decide_eq_true_eq] at h3
      rw [n_add (by omega) (by omega)]
      show (c.2.2.1 - (x.toInt + _)).toNat + 1 ≤ (c.2.2.1 - x.toInt).toNat
      omega
    · rw [decide_eq_false e] at h3 ⊢
      replace h3 : (decide ((Int32.ofInt (a.getD 2 0)).toInt < 0) && decide (c.2.2.1 ≤ (sf_i F (3 * c.2.1 + 1)).1 + (Int32.ofInt (a.getD 2 0)).toInt) && decide (-2147483648 ≤ c.2.2.1)) = true := h3
      simp only [Bool.and_eq_true, decide_eq_true_eq] at h3
      rw [n_add (by omega) (by omega)]
      show (x.toInt + _ - c.2.2.1).toNat + 1 ≤ (x.toInt - c.2.2.1).toNat
      omega
  rw [g1, g2]
  have := Nat.mul_le_mul_left c.1 key
  rw [Nat.mul_add, Nat.mul_one] at this
  exact this
/-- the way left is shorter -/
def sf_mc (q : sf_I) (F F' : List sf_F) : List sf_T → List sf_T → Nat → Nat → Bool
  | [], l', b, b' => decide (b' + sf_ub F' l' < b)
  | _ :: _, [], b, b' => decide (b' < b)
  | c :: l, c' :: l', b, b' => cond (decide (c = c')) (cond (decide (c.2.1 ∉ sf_wr q)) (sf_mc q F F' l l' b b') (cond (sf_dn q F c) (sf_mc q F F' l l' (b + c.1) b') false)) (decide (b' + sf_ub F' (c' :: l') < b))
theorem sf_mc_ok {E : List sf_X} {q : sf_I} {F F' : List sf_F} {s s' : ab_S} {j : Nat} (hF : sf_S (sf_val s) F) (hF' : sf_S (sf_val s') F') (hs : sf_den E q s = some (.inl (j, s'))) : ∀ (l l' : List sf_T) (b b' : Nat), sf_mc q F F' l l' b b' = true → b' + sf_ms s'.1 l' < b + sf_ms s.1 l
  | [], l', b, b', h => by
    rw [sf_mc, decide_eq_true_eq] at h
    obtain ⟨lo', st', r'⟩ := s'
    have := sf_ub_ok hF' l'
    show b' + sf_ms lo' l' < b + 0
    omega
  | c :: l, [], b, b', h => by
    rw [sf_mc, decide_eq_true_eq] at h
    show b' + 0 < b + _
    omega
  | c :: l, c' :: l', b, b', h => by
    rw [sf_mc] at h
    by_cases e : c = c'
    · rw [decide_eq_true e] at h
      subst e
      replace h : cond (decide (c.2.1 ∉ sf_wr q)) (sf_mc q F F' l l' b b') (cond (sf_dn q F c) (sf_mc q F F' l l' (b + c.1) b') false) = true := h
      show b' + (sf_mt s'.1 c + sf_ms s'.1 l') < b + (sf_mt s.1 c + sf_ms s.1 l)
      by_cases e2 : c.2.1 ∉ sf_wr q
      · rw [decide_eq_true e2] at h
        have ih := sf_mc_ok hF hF' hs l l' b b' h
        have em : sf_mt s'.1 c = sf_mt s.1 c := by
          unfold sf_mt
          rw [sf_wr_ok hs e2]
        omega
      · rw [decide_eq_false e2] at h
        cases hd : sf_dn q F c with
        | false =>
          rw [hd] at h
          cases h
        | true =>
          rw [hd] at h
          have ih := sf_mc_ok hF hF' hs l l' (b + c.1) b' h
          have hm := sf_dn_ok hF hs hd
          omega
    · rw [decide_eq_false e] at h
      replace h : decide (b' + sf_ub F' (c' :: l') < b) = true := h
      rw [decide_eq_true_eq] at h
      obtain ⟨lo', st', r'⟩ := s'
      have := sf_ub_ok hF' (c' :: l')
      show b' + sf_ms lo' (c' :: l') < b + _
      omega
def sf_jw (j k : sf_J) : Bool := decide (9 ≤ k.1) || (decide (k.1 = 8) && (decide (j.1 = 0) || decide (j.1 = 1) || decide (j.1 = 3) || decide (j.1 = 8))) || sf_jl j k
theorem sf_jw_ok {t : Nat → Nat} {n : Nat} {j k : sf_J} {v : Option Value} (h : sf_jw j k = true) (hj : sf_j t n j v) : sf_j t n k v := by
  unfold sf_jw at h
  rw [Bool.or_eq_true, Bool.or_eq_true, Bool.and_eq_true] at h
  rcases h with (h | h) | h
  · rw [decide_eq_true_eq] at h
    refine ⟨fun e => ?_, fun e => ?_, fun e => ?_, fun e => ?_, fun e => ?_⟩ <;> omega
  · simp only [Bool.or_eq_true, decide_eq_true_eq] at h
    refine ⟨fun e => absurd (h.1.symm.trans e) (by decide), fun e => absurd (h.1.symm.trans e) (by decide), fun e => absurd (h.1.symm.trans e) (by decide), fun e => absurd (h.1.symm.trans e) (by decide), fun _ => ?_⟩
    rcases h.2 with ((g | g) | g) | g
    · obtain ⟨x, rfl⟩ := hj.1 g
      exact ⟨fun _ e => (by cases e), fun _ e => (by cases e)⟩
    · rcases hj.2.1 g with ⟨a, rfl, -⟩ | ⟨-, rfl⟩
      · exact ⟨fun _ e => (by cases e), fun _ e => (by cases e)⟩
      · exact ⟨fun _ e => (by cases e), fun _ e => (by cases e)⟩
    · obtain rfl := hj.2.2.2.1 g
      exact ⟨fun _ e => (by cases e), fun _ e => (by cases e)⟩
    · exact hj.2.2.2.2 g
  · exact sf_jl_ok h hj
def sf_jws : List sf_J → List sf_J → Bool
  | [], [] => true
  | j :: js, k :: ks => sf_jw j k && sf_jws js ks
  | _, _ => false
theorem sf_jws_ok : ∀ {js ks : List sf_J}, sf_jws js ks = true → js.length = ks.length ∧ ∀ (i : Nat) (k : sf_J), ks[i]? = some k → ∃ j, js[i]? = some j ∧ sf_jw j k = true
  | [], [], _ => ⟨rfl, fun i k h => by cases h⟩
  | [], k :: ks, h => by cases h
  | j :: js, [], h => by cases h
  | j :: js, k :: ks, h => by
    rw [sf_jws, Bool.and_eq_true] at h
    obtain ⟨i1, i2⟩ := sf_jws_ok h.2
    refine ⟨congrArg (· + 1) i1, fun i k' e => ?_⟩
    match i, e with
    | 0, e =>
      cases e
      exact ⟨j, rfl, h.1⟩
    | i + 1, e => exact i2 i k' e
def sf_le (d d' : sf_D) : Bool := sf_jws d.1 d'.1 && sf_jws d.2.1 d'.2.1 && sf_dd d.2.2.1 d'.2.2.1 && decide (d.2.2.2.1 ≤ d'.2.2.2.1) && decide (d.2.2.2.2 ≤ d'.2.2.2.2)
theorem sf_le_ok {t : Nat → Nat} {d d' : sf_D} {s : ab_S} (h : sf_le d d' = true) (G : sf_g t d s) : sf_g t d' s := by
  unfold sf_le at h
  rw [Bool.and_eq_true, Bool.and_eq_true, Bool.and_eq_true, Bool.and_eq_true, decide_eq_true_eq, decide_eq_true_eq] at h
  obtain ⟨⟨⟨⟨h1, h2⟩, h3⟩, h4⟩, h5⟩ := h
  obtain ⟨a1, a2⟩ := sf_jws_ok h1
  obtain ⟨b1, b2⟩ := sf_jws_ok h2
  refine ⟨G.1, ⟨G.2.1.1.trans a1, fun i k e => ?_⟩, ⟨G.2.2.1.1.trans b1, fun i k e => ?_⟩, sf_dd_ok (sf_val_range _) G.2.2.2.1 h3, Nat.le_trans G.2.2.2.2.1 h4, Nat.le_trans G.2.2.2.2.2 h5⟩
  · obtain ⟨j, e1, e2⟩ := a2 i k e
    exact sf_jw_ok e2 (G.2.1.2 i j e1)
  · obtain ⟨j, e1, e2⟩ := b2 i k e
    exact sf_jw_ok e2 (G.2.2.1.2 i j e1)
