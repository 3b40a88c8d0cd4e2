/-! ===== how far a run has to go; when one knowledge is another's part ===== -/
abbrev sf_T : Type := Nat × Nat × Int × Nat
abbrev sf_M : Type := Nat × List sf_T
/-- times, place, bound; 0: from below, 1: from above -/
def sf_mt (v : Nat → Option Int) (c : sf_T) : Nat := c.1 * (match v c.2.1 with
  | some x => (cond (decide (c.2.2.2 = 0)) (c.2.2.1 - x) (x - c.2.2.1)).toNat
  | none => 0)
def sf_ms (v : Nat → Option Int) (l : List sf_T) : Nat := (l.map (sf_mt v)).sum
def sf_mu (m : sf_M) (v : Nat → Option Int) : Nat := m.1 + sf_ms v m.2
def sf_ub (F : List sf_F) (l : List sf_T) : Nat := (l.map (fun c => c.1 * (cond (decide (c.2.2.2 = 0)) (c.2.2.1 - (sf_i F c.2.1).1) ((sf_i F c.2.1).2 - c.2.2.1)).toNat)).sum
theorem sf_val_lc {lo : List (Option Value)} {st : List Value} {r : (Nat × Nat) × ab_H} {i : Nat} : sf_val (lo, st, r) (3 * i + 1) = sf_iv (lo[i]?).join := by
  unfold sf_val
  rw [decide_eq_false (show ¬ (3 * i + 1) % 3 = 0 by omega), decide_eq_true (show (3 * i + 1) % 3 = 1 by omega), show (3 * i + 1) / 3 = i by omega]
  rfl
theorem sf_ub_ok {F : List sf_F} {v : Nat → Option Int} (hv : ∀ q y, v q = some y → -2147483648 ≤ y ∧ y ≤ 2147483647) (hF : sf_S v F) : ∀ (l : List sf_T), sf_ms v l ≤ sf_ub F l
  | [] => Nat.le_refl _
  | c :: l => by
    have ih := sf_ub_ok hv hF l
    have h : sf_mt v c ≤ c.1 * (cond (decide (c.2.2.2 = 0)) (c.2.2.1 - (sf_i F c.2.1).1) ((sf_i F c.2.1).2 - c.2.2.1)).toNat := by
      unfold sf_mt
      refine Nat.mul_le_mul_left _ ?_
      cases hx : v c.2.1 with
      | none => exact Nat.zero_le _
      | some x =>
        have rx := sf_i_ok hv hF hx
        show (cond (decide (c.2.2.2 = 0)) (c.2.2.1 - x) (x - c.2.2.1)).toNat ≤ _
        by_cases e : c.2.2.2 = 0
        · rw [decide_eq_true e]
          show (c.2.2.1 - x).toNat ≤ (c.2.2.1 - (sf_i F c.2.1).1).toNat
          omega
        · rw [decide_eq_false e]
          show (x - c.2.2.1).toNat ≤ ((sf_i F c.2.1).2 - c.2.2.1).toNat
          omega
    show (sf_mt v c + sf_ms v l) ≤ _ + sf_ub F l
    exact Nat.add_le_add h ih
/-- W without a place of the heap -/
def sf_wo (W : List (Nat × Nat × Nat)) (g i : Nat) : List (Nat × Nat × Nat) := W.flatMap (fun w => cond (decide (w.1 = g) && decide (w.2.1 ≤ i) && decide (i ≤ w.2.2)) (cond (decide (w.2.1 < i)) [(g, w.2.1, i - 1)] [] ++ cond (decide (i < w.2.2)) [(g, i + 1, w.2.2)] []) [w])
/-- a place's number stays by this step -/
def sf_sy (K : List sf_Q) (W : List (Nat × Nat × Nat)) (q : sf_I) (d : sf_D) (p : Nat) : Bool := (decide (p % 3 = 1) && decide (p / 3 ∉ sf_wr q)) ||
  (decide (p % 3 = 2) && !sf_bW (sf_wo W (p / 3 / 1000 - 1) (p / 3 % 1000)) p && (sf_go K (sf_wo W (p / 3 / 1000 - 1) (p / 3 % 1000)) q d).isSome)
theorem sf_sy_ok {K : List sf_Q} {E : List sf_X} {W : List (Nat × Nat × Nat)} (hK : ∀ (m : Nat) (k : sf_Q), K[m]? = some k → sf_ct k (E.getD m sf_no)) {q : sf_I} {d : sf_D} {t : Nat → Nat} {s s' : ab_S} {j p : Nat} (G : sf_g t d s) (hs : sf_den E q s = some (.inl (j, s'))) (h : sf_sy K W q d p = true) : sf_val s' p = sf_val s p := by
  unfold sf_sy at h
  rw [Bool.or_eq_true, Bool.and_eq_true, Bool.and_eq_true, Bool.and_eq_true, decide_eq_true_eq, decide_eq_true_eq, decide_eq_true_eq] at h
  rcases h with ⟨h1, h2⟩ | ⟨⟨h1, h2⟩, h3⟩
  · obtain ⟨i, rfl⟩ : ∃ i, p = 3 * i + 1 := ⟨p / 3, by omega⟩
    rw [show (3 * i + 1) / 3 = i by omega] at h2
    obtain ⟨lo, st, r⟩ := s
    obtain ⟨lo', st', r'⟩ := s'
    rw [sf_val_lc, sf_val_lc]
    have := sf_wr_ok hs h2
    rw [show lo'[i]? = lo[i]? from this]
  · obtain ⟨out, ho⟩ := Option.isSome_iff_exists.mp h3
    obtain ⟨j2, s2, t2, d2, e1, -, -, e4⟩ := sf_go_ok hK ho t s G
    rw [hs] at e1
    cases e1
    obtain ⟨lo, st, u, hp⟩ := s
    obtain ⟨lo', st', u', hp'⟩ := s'
    have hb : sf_bW (sf_wo W (p / 3 / 1000 - 1) (p / 3 % 1000)) p = false := by simpa using h2
    have hl : 1000 ≤ p / 3 := by
      unfold sf_bW at hb
      rw [Bool.or_eq_false_iff, decide_eq_true h1, Bool.true_and, decide_eq_false_iff_not] at hb
      omega
    have e5 := sf_val_fr (lo := lo) (st := st) (u := u) (u' := u') G.1 e4 hb
    exact (sf_val_l h1 hl).trans e5
/-- a field's number becomes the number on top -/
theorem sf_put_at {t : Nat → Nat} {d1 jt : List sf_J} {a b g n ci i kd : Nat} {F : List sf_F} {U V : Nat} {s s' : ab_S} (G : sf_g t (d1, (0, a, b) :: (1, g, n) :: jt, F, U, V) s) (hg : g = ci) (hu : sf_un ci i = true) (hs : ab_putf ci i kd s = some s') : sf_val s' (sf_lp ci i) = sf_val s (3 * (jt.length + 1)) := by
  subst hg
  obtain ⟨lo, stk, u, hp⟩ := s
  obtain ⟨v, w, st, rfl, hl, h1, h2⟩ := sf_pop2 G
  obtain ⟨x, hx⟩ := h1.1 rfl
  cases hx
  have vv : sf_val (lo, .int x :: w :: st, u, hp) (3 * (jt.length + 1)) = some x.toInt := sf_val_py1 hl
  rcases h2.2.1 rfl with ⟨q, hq, ha, hta⟩ | ⟨-, hq⟩
  · cases hq
    have ha' : q < hp.1 := ha
    have hta' : t q = g := hta
    unfold ab_putf at hs
    dsimp only at hs
    have hs := (ab_condN hs).2
    split at hs
    · rename_i o ho
      obtain ⟨hc, hs⟩ := ab_condN hs
      obtain rfl := Option.some.inj hs
      rw [Bool.and_eq_true, decide_eq_true_eq] at hc
      have hlt : i < o.2.length := hc.2
      rw [vv]
      have H : sf_h t hp := G.1
      have hq : sf_un g i = true := hu
      unfold sf_un at hq
      rw [Bool.and_eq_true, decide_eq_true_eq] at hq
      obtain ⟨z, hz⟩ := Option.isSome_iff_exists.mp hq.1
      have e : q = z := H.2.1 q z ha' (by rw [hta']; exact hz)
      unfold sf_val sf_lp
      rw [decide_eq_false (show ¬ (3 * (1000 * (g + 1) + i) + 2) % 3 = 0 by omega), decide_eq_false (show ¬ (3 * (1000 * (g + 1) + i) + 2) % 3 = 1 by omega), show (3 * (1000 * (g + 1) + i) + 2) / 3 = 1000 * (g + 1) + i by omega]
      show sf_lc lo (ab_up hp q (.inr (g, o.2.set i (.int x)))) (1000 * (g + 1) + i) = _
      unfold sf_lc
      rw [decide_eq_false (show ¬ 1000 * (g + 1) + i < 1000 by omega), show (1000 * (g + 1) + i) / 1000 - 1 = g by omega, show (1000 * (g + 1) + i) % 1000 = i by omega, hz, ← e]
      show sf_rd (ab_up hp q (.inr (g, o.2.set i (.int x)))) q i = _
      rw [sf_rd_up_obj, List.getElem?_set_self hlt]
      rfl
    · cases hs
  · cases hq
    unfold ab_putf at hs
    cases hs
/-- the counter of c comes nearer by this step -/
def sf_dn (q : sf_I) (d : sf_D) (c : sf_T) : Bool :=
  (decide (q.1 = 8) && decide (3 * sf_n0 q.2 1 + 1 = c.2.1) &&
  cond (decide (c.2.2.2 = 0)) (decide (0 < (Int32.ofInt (q.2.getD 2 0)).toInt) && decide ((sf_i d.2.2.1 c.2.1).2 + (Int32.ofInt (q.2.getD 2 0)).toInt ≤ c.2.2.1) && decide (c.2.2.1 ≤ 2147483647))
    (decide ((Int32.ofInt (q.2.getD 2 0)).toInt < 0) && decide (c.2.2.1 ≤ (sf_i d.2.2.1 c.2.1).1 + (Int32.ofInt (q.2.getD 2 0)).toInt) && decide (-2147483648 ≤ c.2.2.1))) ||
  (decide (q.1 = 24) && decide (sf_lp (sf_n0 q.2 1) (sf_n0 q.2 2) = c.2.1) && sf_un (sf_n0 q.2 1) (sf_n0 q.2 2) && (match d.2.1 with
    | (0, _, _) :: (1, g, _) :: jt => decide (g = sf_n0 q.2 1) && d.2.2.1.any (fun f => decide (f.1 = 2) && decide (f.2.1 = 3 * (jt.length + 1)) && decide (f.2.2.1 = c.2.1) && decide (f.2.2.2.1 = 1) &&
        cond (decide (c.2.2.2 = 0)) (decide (0 < f.2.2.2.2.1) && decide ((sf_i d.2.2.1 c.2.1).2 + f.2.2.2.2.1 ≤ c.2.2.1)) (decide (f.2.2.2.2.1 < 0) && decide (c.2.2.1 ≤ (sf_i d.2.2.1 c.2.1).1 + f.2.2.2.2.1)))
    | _ => false))
theorem sf_dn_ok {E : List sf_X} {q : sf_I} {d : sf_D} {c : sf_T} {t : Nat → Nat} {s s' : ab_S} {j : Nat} (G : sf_g t d s) (hs : sf_den E q s = some (.inl (j, s'))) (h : sf_dn q d c = true) : sf_mt (sf_val s') c + c.1 ≤ sf_mt (sf_val s) c := by
  have hF := G.2.2.2.1
  have fin : ∀ x y : Int, sf_val s c.2.1 = some x → sf_val s' c.2.1 = some y → (c.2.2.2 = 0 → x < y ∧ y ≤ c.2.2.1) → (c.2.2.2 ≠ 0 → y < x ∧ c.2.2.1 ≤ y) → sf_mt (sf_val s') c + c.1 ≤ sf_mt (sf_val s) c := by
    intro x y hx hy h0 h1
    have key : (cond (decide (c.2.2.2 = 0)) (c.2.2.1 - y) (y - c.2.2.1)).toNat + 1 ≤ (cond (decide (c.2.2.2 = 0)) (c.2.2.1 - x) (x - c.2.2.1)).toNat := by
      by_cases e : c.2.2.2 = 0
      · rw [decide_eq_true e]
        have := h0 e
        show (c.2.2.1 - y).toNat + 1 ≤ (c.2.2.1 - x).toNat
        omega
      · rw [decide_eq_false e]
        have := h1 e
        show (y - c.2.2.1).toNat + 1 ≤ (x - c.2.2.1).toNat
        omega
    unfold sf_mt
    rw [hx, hy]
    have := Nat.mul_le_mul_left c.1 key
    rw [Nat.mul_add, Nat.mul_one] at this
    exact this
  unfold sf_dn at h
  rw [Bool.or_eq_true] at h
  rcases h with h | h
  · rw [Bool.and_eq_true, Bool.and_eq_true, decide_eq_true_eq, decide_eq_true_eq] at h
    obtain ⟨⟨h1, h2⟩, h3⟩ := h
    obtain ⟨n, a⟩ := q
    have h1' : n = 8 := h1
    subst h1'
    obtain ⟨x, e1, e2⟩ := sf_inc_ok hs
    have h2' : 3 * sf_n0 a 1 + 1 = c.2.1 := h2
    obtain ⟨lo, st, r⟩ := s
    obtain ⟨lo', st', r'⟩ := s'
    have vx : sf_val (lo, st, r) c.2.1 = some x.toInt := by
      rw [← h2', sf_val_lc, show lo[sf_n0 a 1]? = some (some (.int x)) from e1]
      rfl
    have vy : sf_val (lo', st', r') c.2.1 = some (x + Int32.ofInt (a.getD 2 0)).toInt := by
      rw [← h2', sf_val_lc, show lo'[sf_n0 a 1]? = some (some (.int (x + Int32.ofInt (a.getD 2 0)))) from e2]
      rfl
    have rx := sf_i_ok (sf_val_range _) hF vx
    have nx := n_range x
    refine fin _ _ vx vy (fun e => ?_) (fun e => ?_)
    · rw [decide_eq_true e] at h3
      replace h3 : (decide (0 < (Int32.ofInt (a.getD 2 0)).toInt) && decide ((sf_i d.2.2.1 c.2.1).2 + (Int32.ofInt (a.getD 2 0)).toInt ≤ c.2.2.1) && decide (c.2.2.1 ≤ 2147483647)) = true := h3
      simp only [Bool.and_eq_true, decide_eq_true_eq] at h3
      rw [n_add (by omega) (by omega)]
      omega
    · rw [decide_eq_false e] at h3
      replace h3 : (decide ((Int32.ofInt (a.getD 2 0)).toInt < 0) && decide (c.2.2.1 ≤ (sf_i d.2.2.1 c.2.1).1 + (Int32.ofInt (a.getD 2 0)).toInt) && decide (-2147483648 ≤ c.2.2.1)) = true := h3
      simp only [Bool.and_eq_true, decide_eq_true_eq] at h3
      rw [n_add (by omega) (by omega)]
      omega
  · rw [Bool.and_eq_true, Bool.and_eq_true, Bool.and_eq_true, decide_eq_true_eq, decide_eq_true_eq] at h
    obtain ⟨⟨⟨h1, h2⟩, h3⟩, h4⟩ := h
    obtain ⟨n, a⟩ := q
    have h1' : n = 24 := h1
    subst h1'
    split at h4
    · rename_i y1 y2 g y3 jt hd
      rw [Bool.and_eq_true, decide_eq_true_eq] at h4
      obtain ⟨f, hf, hfc⟩ := List.any_eq_true.mp h4.2
      rw [Bool.and_eq_true, Bool.and_eq_true, Bool.and_eq_true, Bool.and_eq_true, decide_eq_true_eq, decide_eq_true_eq, decide_eq_true_eq, decide_eq_true_eq] at hfc
      obtain ⟨⟨⟨⟨f1, f2⟩, f3⟩, f4⟩, f5⟩ := hfc
      obtain ⟨d1, d2, F, U, V⟩ := d
      have hd' : d2 = (0, y1, y2) :: (1, g, y3) :: jt := hd
      subst hd'
      have hput := sf_put_at G h4.1 h3 (kl_nx hs)
      obtain ⟨x, y, hx, hy, hxy⟩ := (hF f hf).2.1 f1
      rw [f2] at hx
      rw [f3] at hy
      have hput' : sf_val s' c.2.1 = some x := by
        rw [← h2]
        exact hput.trans hx
      have ry := sf_i_ok (sf_val_range _) hF hy
      rw [f4, Int.one_mul] at hxy
      refine fin y x hy hput' (fun e => ?_) (fun e => ?_)
      · rw [decide_eq_true e] at f5
        replace f5 : (decide (0 < f.2.2.2.2.1) && decide ((sf_i F c.2.1).2 + f.2.2.2.2.1 ≤ c.2.2.1)) = true := f5
        simp only [Bool.and_eq_true, decide_eq_true_eq] at f5
        have r2 : y ≤ (sf_i F c.2.1).2 := ry.2
        omega
      · rw [decide_eq_false e] at f5
        replace f5 : (decide (f.2.2.2.2.1 < 0) && decide (c.2.2.1 ≤ (sf_i F c.2.1).1 + f.2.2.2.2.1)) = true := f5
        simp only [Bool.and_eq_true, decide_eq_true_eq] at f5
        have r1 : (sf_i F c.2.1).1 ≤ y := ry.1
        omega
    · cases h4
/-- the way left is shorter -/
def sf_mc (K : List sf_Q) (W : List (Nat × Nat × Nat)) (q : sf_I) (d : sf_D) (F' : List sf_F) : List sf_T → List sf_T → Nat → Nat → Bool
  | [], l', b, b' => decide (b' + sf_ub F' l' < b)
  | _ :: _, [], b, b' => decide (b' < b)
  | c :: l, c' :: l', b, b' => cond (decide (c = c')) (cond (sf_sy K W q d c.2.1) (sf_mc K W q d F' l l' b b') (cond (sf_dn q d c) (sf_mc K W q d F' l l' (b + c.1) b') false)) (decide (b' + sf_ub F' (c' :: l') < b))
theorem sf_mc_ok {K : List sf_Q} {E : List sf_X} {W : List (Nat × Nat × Nat)} (hK : ∀ (m : Nat) (k : sf_Q), K[m]? = some k → sf_ct k (E.getD m sf_no)) {q : sf_I} {d : sf_D} {F' : List sf_F} {t : Nat → Nat} {s s' : ab_S} {j : Nat} (G : sf_g t d s) (hF' : sf_S (sf_val s') F') (hs : sf_den E q s = some (.inl (j, s'))) : ∀ (l l' : List sf_T) (b b' : Nat), sf_mc K W q d F' l l' b b' = true → b' + sf_ms (sf_val s') l' < b + sf_ms (sf_val s) l
  | [], l', b, b', h => by
    rw [sf_mc, decide_eq_true_eq] at h
    have := sf_ub_ok (sf_val_range _) hF' l'
    show b' + sf_ms (sf_val s') l' < b + 0
    omega
  | c :: l, [], b, b', h => by
    rw [sf_mc, decide_eq_true_eq] at h
    show b' + 0 < b + _
    omega
  | c :: l, c' :: l', b, b', h => by
    rw [sf_mc] at h
    by_cases e : c = c'
    · rw [decide_eq_true e] at h
      subst e
      replace h : cond (sf_sy K W q d c.2.1) (sf_mc K W q d F' l l' b b') (cond (sf_dn q d c) (sf_mc K W q d F' l l' (b + c.1) b') false) = true := h
      show b' + (sf_mt (sf_val s') c + sf_ms (sf_val s') l') < b + (sf_mt (sf_val s) c + sf_ms (sf_val s) l)
      cases e2 : sf_sy K W q d c.2.1 with
      | true =>
        rw [e2] at h
        have ih := sf_mc_ok hK G hF' hs l l' b b' h
        have em : sf_mt (sf_val s') c = sf_mt (sf_val s) c := by
          unfold sf_mt
          rw [sf_sy_ok hK G hs e2]
        omega
      | false =>
        rw [e2] at h
        cases hd : sf_dn q d c with
        | false =>
          rw [hd] at h
          cases h
        | true =>
          rw [hd] at h
          have ih := sf_mc_ok hK G hF' hs l l' (b + c.1) b' h
          have hm := sf_dn_ok G hs hd
          omega
    · rw [decide_eq_false e] at h
      replace h : decide (b' + sf_ub F' (c' :: l') < b) = true := h
      rw [decide_eq_true_eq] at h
      have := sf_ub_ok (sf_val_range _) hF' (c' :: l')
      show b' + sf_ms (sf_val s') (c' :: l') < b + _
      omega
def sf_jw (j k : sf_J) : Bool := decide (9 ≤ k.1) || (decide (k.1 = 8) && (decide (j.1 = 0) || decide (j.1 = 1) || decide (j.1 = 3) || decide (j.1 = 8))) || sf_jl j k
theorem sf_jw_ok {t : Nat → Nat} {n : Nat} {j k : sf_J} {v : Option Value} (h : sf_jw j k = true) (hj : sf_j t n j v) : sf_j t n k v := by
  unfold sf_jw at h
  rw [Bool.or_eq_true, Bool.or_eq_true, Bool.and_eq_true] at h
  rcases h with (h | h) | h
  · rw [decide_eq_true_eq] at h
    refine ⟨fun e => ?_, fun e => ?_, fun e => ?_, fun e => ?_, fun e => ?_⟩ <;> omega
  · simp only [Bool.or_eq_true, decide_eq_true_eq] at h
    refine ⟨fun e => absurd (h.1.symm.trans e) (by decide), fun e => absurd (h.1.symm.trans e) (by decide), fun e => absurd (h.1.symm.trans e) (by decide), fun e => absurd (h.1.symm.trans e) (by decide), fun _ => ?_⟩
    rcases h.2 with ((g | g) | g) | g
    · obtain ⟨x, rfl⟩ := hj.1 g
      exact ⟨fun _ e => (by cases e), fun _ e => (by cases e)⟩
    · rcases hj.2.1 g with ⟨a, rfl, -⟩ | ⟨-, rfl⟩
      · exact ⟨fun _ e => (by cases e), fun _ e => (by cases e)⟩
      · exact ⟨fun _ e => (by cases e), fun _ e => (by cases e)⟩
    · obtain rfl := hj.2.2.2.1 g
      exact ⟨fun _ e => (by cases e), fun _ e => (by cases e)⟩
    · exact hj.2.2.2.2 g
  · exact sf_jl_ok h hj
def sf_jws : List sf_J → List sf_J → Bool
  | [], [] => true
  | j :: js, k :: ks => sf_jw j k && sf_jws js ks
  | _, _ => false
theorem sf_jws_ok : ∀ {js ks : List sf_J}, sf_jws js ks = true → js.length = ks.length ∧ ∀ (i : Nat) (k : sf_J), ks[i]? = some k → ∃ j, js[i]? = some j ∧ sf_jw j k = true
  | [], [], _ => ⟨rfl, fun i k h => by cases h⟩
  | [], k :: ks, h => by cases h
  | j :: js, [], h => by cases h
  | j :: js, k :: ks, h => by
    rw [sf_jws, Bool.and_eq_true] at h
    obtain ⟨i1, i2⟩ := sf_jws_ok h.2
    refine ⟨congrArg (· + 1) i1, fun i k' e => ?_⟩
    match i, e with
    | 0, e =>
      cases e
      exact ⟨j, rfl, h.1⟩
    | i + 1, e => exact i2 i k' e
def sf_le (d d' : sf_D) : Bool := sf_jws d.1 d'.1 && sf_jws d.2.1 d'.2.1 && sf_dd d.2.2.1 d'.2.2.1 && decide (d.2.2.2.1 ≤ d'.2.2.2.1) && decide (d.2.2.2.2 ≤ d'.2.2.2.2)
theorem sf_le_ok {t : Nat → Nat} {d d' : sf_D} {s : ab_S} (h : sf_le d d' = true) (G : sf_g t d s) : sf_g t d' s := by
  unfold sf_le at h
  rw [Bool.and_eq_true, Bool.and_eq_true, Bool.and_eq_true, Bool.and_eq_true, decide_eq_true_eq, decide_eq_true_eq] at h
  obtain ⟨⟨⟨⟨h1, h2⟩, h3⟩, h4⟩, h5⟩ := h
  obtain ⟨a1, a2⟩ := sf_jws_ok h1
  obtain ⟨b1, b2⟩ := sf_jws_ok h2
  refine ⟨G.1, ⟨G.2.1.1.trans a1, fun i k e => ?_⟩, ⟨G.2.2.1.1.trans b1, fun i k e => ?_⟩, sf_dd_ok (sf_val_range _) G.2.2.2.1 h3, Nat.le_trans G.2.2.2.2.1 h4, Nat.le_trans G.2.2.2.2.2 h5⟩
  · obtain ⟨j, e1, e2⟩ := a2 i k e
    exact sf_jw_ok e2 (G.2.1.2 i j e1)
  · obtain ⟨j, e1, e2⟩ := b2 i k e
    exact sf_jw_ok e2 (G.2.2.1.2 i j e1)
