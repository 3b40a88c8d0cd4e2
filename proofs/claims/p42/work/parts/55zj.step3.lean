/-! ===== steps over what is known: more numbers, copies on the stack ===== -/
/-- two values become an int of the range r (empty: nothing is said) -/
def sf_rs (p : Nat) (r : Int × Int) : List sf_F := cond (sf_bg r) [(1, p, 0, r.1, r.2, 0)] [sf_top p]
theorem sf_rs_ok {v : Nat → Option Int} {p : Nat} {x : Int32} {r : Int × Int} (h : v p = some x.toInt) (hr : sf_bg r = true → r.1 ≤ x.toInt ∧ x.toInt ≤ r.2) : sf_S v (sf_rs p r) := by
  unfold sf_rs
  cases hg : sf_bg r with
  | false => exact sf_S_cons (sf_top_ok h) sf_S_nil
  | true => exact sf_S_cons (sf_s1 h (hr hg).1 (hr hg).2) sf_S_nil
theorem sf_two {t : Nat → Nat} {d1 jt : List sf_J} {j k : sf_J} {F A : List sf_F} {U V : Nat} {lo : List (Option Value)} {v w x : Value} {j' : sf_J} {st : List Value} {u : Nat × Nat} {hp : ab_H} (G : sf_g t (d1, j :: k :: jt, F, U, V) (lo, v :: w :: st, u, hp)) (hl : st.length = jt.length) (hj : sf_j t hp.1 j' (some x)) (hA : sf_S (sf_val (lo, x :: st, u, hp)) A) : sf_g t (d1, j' :: jt, sf_k (sf_bS jt.length) F ++ A, U, V) (lo, x :: st, u, hp) := by
  have := sf_stk (d := (d1, [], [], 0, 0)) (xs := [v, w]) (ys := [x]) (js := [j, k]) (js' := [j']) (A := A) G rfl rfl (sf_one hj) hA
  rw [hl] at this
  exact this
theorem sf_sin {t : Nat → Nat} {d1 jt : List sf_J} {j : sf_J} {F A : List sf_F} {U V : Nat} {lo : List (Option Value)} {v x : Value} {j' : sf_J} {st : List Value} {u : Nat × Nat} {hp : ab_H} (G : sf_g t (d1, j :: jt, F, U, V) (lo, v :: st, u, hp)) (hl : st.length = jt.length) (hj : sf_j t hp.1 j' (some x)) (hA : sf_S (sf_val (lo, x :: st, u, hp)) A) : sf_g t (d1, j' :: jt, sf_k (sf_bS jt.length) F ++ A, U, V) (lo, x :: st, u, hp) := by
  have := sf_stk (d := (d1, [], [], 0, 0)) (xs := [v]) (ys := [x]) (js := [j]) (js' := [j']) (A := A) G rfl rfl (sf_one hj) hA
  rw [hl] at this
  exact this
theorem sf_dr1 {t : Nat → Nat} {d1 jt : List sf_J} {j : sf_J} {F : List sf_F} {U V : Nat} {lo : List (Option Value)} {v : Value} {st : List Value} {u : Nat × Nat} {hp : ab_H} (G : sf_g t (d1, j :: jt, F, U, V) (lo, v :: st, u, hp)) (hl : st.length = jt.length) : sf_g t (d1, jt, sf_k (sf_bS jt.length) F ++ [], U, V) (lo, st, u, hp) := by
  have := sf_stk (d := (d1, [], [], 0, 0)) (xs := [v]) (ys := []) (js := [j]) (js' := []) (A := []) G rfl rfl sf_none sf_S_nil
  rw [hl] at this
  exact this
theorem sf_dr2 {t : Nat → Nat} {d1 jt : List sf_J} {j k : sf_J} {F : List sf_F} {U V : Nat} {lo : List (Option Value)} {v w : Value} {st : List Value} {u : Nat × Nat} {hp : ab_H} (G : sf_g t (d1, j :: k :: jt, F, U, V) (lo, v :: w :: st, u, hp)) (hl : st.length = jt.length) : sf_g t (d1, jt, sf_k (sf_bS jt.length) F ++ [], U, V) (lo, st, u, hp) := by
  have := sf_stk (d := (d1, [], [], 0, 0)) (xs := [v, w]) (ys := []) (js := [j, k]) (js' := []) (A := []) G rfl rfl sf_none sf_S_nil
  rw [hl] at this
  exact this
def so_irem (d : sf_D) : Option sf_D := match d.2.1 with
  | (0, _, _) :: (0, _, _) :: jt => cond (decide (1 ≤ (sf_i d.2.2.1 (3 * (jt.length + 1))).1))
      (some (d.1, (0, 0, 0) :: jt, sf_k (sf_bS jt.length) d.2.2.1 ++ sf_rs (3 * jt.length) (cond (decide (0 ≤ (sf_i d.2.2.1 (3 * jt.length)).1)) 0 (1 - (sf_i d.2.2.1 (3 * (jt.length + 1))).2), (sf_i d.2.2.1 (3 * (jt.length + 1))).2 - 1), d.2.2.2)) none
  | _ => none
theorem so_irem_ok {W : List (Nat × Nat × Nat)} {d d' : sf_D} (h : so_irem d = some d') : sf_nx W ab_irem d d' := by
  obtain ⟨d1, d2, F, U, V⟩ := d
  unfold so_irem at h
  dsimp only at h
  split at h
  · rename_i a b a' b' jt
    obtain ⟨hc, h⟩ := ab_cond h
    subst h
    rw [decide_eq_true_eq] at hc
    intro t s G
    obtain ⟨lo, stk, u, hp⟩ := s
    obtain ⟨v, w, st, rfl, hl, h1, h2⟩ := sf_pop2 G
    obtain ⟨y, hy⟩ := h1.1 rfl
    obtain ⟨x, hx⟩ := h2.1 rfl
    cases hy
    cases hx
    have vy : sf_val (lo, .int y :: .int x :: st, u, hp) (3 * (jt.length + 1)) = some y.toInt := sf_val_py1 hl
    have vx : sf_val (lo, .int y :: .int x :: st, u, hp) (3 * jt.length) = some x.toInt := sf_val_px hl
    have hF : sf_S (sf_val (lo, .int y :: .int x :: st, u, hp)) F := G.2.2.2.1
    have ry := sf_i_ok (sf_val_range _) hF vy
    have rx := sf_i_ok (sf_val_range _) hF vx
    have y0 : y ≠ 0 := fun e => by
      rw [e] at ry
      have e0 : (0 : Int32).toInt = 0 := rfl
      replace hc : 1 ≤ (sf_i F (3 * (jt.length + 1))).1 := hc
      have := ry.1
      omega
    refine ⟨(lo, .int (x - x / y * y) :: st, u, hp), t, ?_, sf_two G hl sf_j0 (sf_rs_ok (sf_val_py hl) fun _ => ?_), sf_fr_rf⟩
    · show cond (decide (y = 0)) none _ = _
      rw [decide_eq_false y0]
      rfl
    · replace hc : 1 ≤ (sf_i F (3 * (jt.length + 1))).1 := hc
      have hy1 : 1 ≤ y.toInt := Int.le_trans hc ry.1
      rw [n_rem hy1]
      have b1 : x.toInt.tmod y.toInt < y.toInt := Int.tmod_lt_of_pos _ (by omega)
      have b2 : -y.toInt < x.toInt.tmod y.toInt := by
        have := Int.tmod_lt_of_pos (-x.toInt) (show 0 < y.toInt by omega)
        rw [Int.neg_tmod] at this
        omega
      have r2 := ry.2
      constructor
      · show cond (decide (0 ≤ (sf_i F (3 * jt.length)).1)) 0 (1 - (sf_i F (3 * (jt.length + 1))).2) ≤ _
        by_cases c : 0 ≤ (sf_i F (3 * jt.length)).1
        · rw [decide_eq_true c]
          exact Int.tmod_nonneg _ (Int.le_trans c rx.1)
        · rw [decide_eq_false c]
          show 1 - (sf_i F (3 * (jt.length + 1))).2 ≤ _
          omega
      · show _ ≤ (sf_i F (3 * (jt.length + 1))).2 - 1
        omega
  · cases h
def sf_u (k : Nat) : Int32 → Int32 := match k with
  | 0 => fun x => -x
  | _ => fun x => x.toInt8.toInt32
def so_un (k : Nat) (d : sf_D) : Option sf_D := match d.2.1 with
  | (0, _, _) :: jt => some (d.1, (0, 0, 0) :: jt, sf_k (sf_bS jt.length) d.2.2.1 ++ sf_rs (3 * jt.length) (cond (decide (k = 0) && decide (-2147483648 < (sf_i d.2.2.1 (3 * jt.length)).1)) (-(sf_i d.2.2.1 (3 * jt.length)).2, -(sf_i d.2.2.1 (3 * jt.length)).1) (1, 0)), d.2.2.2)
  | _ => none
theorem so_un_ok {W : List (Nat × Nat × Nat)} {k : Nat} {d d' : sf_D} (h : so_un k d = some d') : sf_nx W (ab_un (sf_u k)) d d' := by
  obtain ⟨d1, d2, F, U, V⟩ := d
  unfold so_un at h
  dsimp only at h
  split at h
  · rename_i a b jt
    obtain rfl := Option.some.inj h
    intro t s G
    obtain ⟨lo, stk, u, hp⟩ := s
    obtain ⟨v, st, rfl, hl, h1⟩ := sf_pop1 G
    obtain ⟨x, hx⟩ := h1.1 rfl
    cases hx
    have vx : sf_val (lo, .int x :: st, u, hp) (3 * jt.length) = some x.toInt := sf_val_py hl
    have rx := sf_i_ok (sf_val_range _) G.2.2.2.1 vx
    refine ⟨(lo, .int (sf_u k x) :: st, u, hp), t, rfl, sf_sin G hl sf_j0 (sf_rs_ok (sf_val_py hl) fun hb => ?_), sf_fr_rf⟩
    cases hc : (decide (k = 0) && decide (-2147483648 < (sf_i F (3 * jt.length)).1)) with
    | false =>
      rw [hc] at hb
      exact absurd hb (by show ¬ sf_bg (1, 0) = true; decide)
    | true =>
      rw [Bool.and_eq_true, decide_eq_true_eq, decide_eq_true_eq] at hc
      obtain ⟨rfl, hc⟩ := hc
      have r1 : (sf_i F (3 * jt.length)).1 ≤ x.toInt := rx.1
      have r2 : x.toInt ≤ (sf_i F (3 * jt.length)).2 := rx.2
      have e : (sf_u 0 x).toInt = - x.toInt := n_neg (x := x) (by omega)
      rw [e]
      constructor
      · show -(sf_i F (3 * jt.length)).2 ≤ _
        omega
      · show _ ≤ -(sf_i F (3 * jt.length)).1
        omega
  · cases h
/-- Math.max (0) and Math.min -/
def sf_mf (k : Nat) : Int32 → Int32 → Int32 := match k with
  | 0 => ab_max
  | _ => ab_min
def sf_mr (k : Nat) (x y : Int × Int) : Int × Int := match k with
  | 0 => (max x.1 y.1, max x.2 y.2)
  | _ => (min x.1 y.1, min x.2 y.2)
/-- the longs on a stack count twice -/
def sf_cat (js : List sf_J) : Nat := (js.map (fun j => cond (decide (j.1 = 2)) 2 1)).sum
/-- nothing of a kind that could be a long unseen -/
def sf_cok (js : List sf_J) : Bool := js.all (fun j => decide (j.1 ≤ 3))
theorem sf_cat_ok {t : Nat → Nat} {n : Nat} : ∀ {js : List sf_J} {st : List Value}, st.length = js.length → (∀ (i : Nat) (j : sf_J), js[i]? = some j → sf_j t n j st[i]?) → sf_cok js = true → ab_cats st ≤ sf_cat js
  | [], st, hl, _, _ => by
    cases st with
    | nil => exact Nat.le_refl _
    | cons v st => cases hl
  | j :: js, st, hl, hj, hc => by
    cases st with
    | nil => cases hl
    | cons v st =>
      have ih := sf_cat_ok (js := js) (st := st) (Nat.succ.inj hl) (fun i j' h => hj (i + 1) j' h) (by
        unfold sf_cok at hc ⊢
        rw [List.all_cons, Bool.and_eq_true] at hc
        exact hc.2)
      have hc1 : j.1 ≤ 3 := by
        unfold sf_cok at hc
        rw [List.all_cons, Bool.and_eq_true, decide_eq_true_eq] at hc
        exact hc.1
      have h0 := hj 0 j rfl
      have hv : v.category ≤ cond (decide (j.1 = 2)) 2 1 := by
        obtain ⟨a, b, c⟩ := j
        match a, hc1, h0 with
        | 0, _, h0 =>
          obtain ⟨x, hx⟩ := h0.1 rfl
          cases hx
          exact Nat.le_refl _
        | 1, _, h0 =>
          rcases h0.2.1 rfl with ⟨q, hx, -⟩ | ⟨-, hx⟩
          · cases hx
            exact Nat.le_refl _
          · cases hx
            exact Nat.le_refl _
        | 2, _, h0 =>
          obtain ⟨x, hx⟩ := h0.2.2.1 rfl
          cases hx
          exact Nat.le_refl _
        | 3, _, h0 =>
          have hx := h0.2.2.2.1 rfl
          cases hx
          exact Nat.le_refl _
        | a + 4, hc1, _ => exact absurd hc1 (by show ¬ a + 4 ≤ 3; omega)
      show (v.category + (st.map fun v => v.category).sum) ≤ cond (decide (j.1 = 2)) 2 1 + (js.map (fun j => cond (decide (j.1 = 2)) 2 1)).sum
      exact Nat.add_le_add hv ih
theorem sf_stail {t : Nat → Nat} {d1 js jt : List sf_J} {F : List sf_F} {U V : Nat} {lo : List (Option Value)} {xs st : List Value} {u : Nat × Nat} {hp : ab_H} (G : sf_g t (d1, js ++ jt, F, U, V) (lo, xs ++ st, u, hp)) (hx : xs.length = js.length) : ∀ (i : Nat) (j : sf_J), jt[i]? = some j → sf_j t hp.1 j st[i]? := by
  intro i j h
  have := G.2.2.1.2 (js.length + i) j (by
    show (js ++ jt)[js.length + i]? = some j
    rw [List.getElem?_append_right (Nat.le_add_right _ _), Nat.add_sub_cancel_left]
    exact h)
  replace this : sf_j t hp.1 j (xs ++ st)[js.length + i]? := this
  rw [List.getElem?_append_right (by rw [hx]; exact Nat.le_add_right _ _), hx, Nat.add_sub_cancel_left] at this
  exact this
def so_mm (k MC MS : Nat) (d : sf_D) : Option sf_D := match d.2.1 with
  | (0, _, _) :: (0, _, _) :: jt => cond (sf_cok jt && decide (sf_cat jt ≤ 8) && decide (d.2.2.2.1 ≤ MC) && decide (d.2.2.2.2 ≤ MS))
      (some (d.1, (0, 0, 0) :: jt, sf_k (sf_bS jt.length) d.2.2.1 ++ sf_rs (3 * jt.length) (sf_mr k (sf_i d.2.2.1 (3 * jt.length)) (sf_i d.2.2.1 (3 * (jt.length + 1)))), d.2.2.2)) none
  | _ => none
theorem so_mm_ok {W : List (Nat × Nat × Nat)} {k MC MS : Nat} {d d' : sf_D} (h : so_mm k MC MS d = some d') : sf_nx W (ab_mm (sf_mf k) MC MS) d d' := by
  obtain ⟨d1, d2, F, U, V⟩ := d
  unfold so_mm at h
  dsimp only at h
  split at h
  · rename_i a b a' b' jt
    obtain ⟨hc, h⟩ := ab_cond h
    subst h
    simp only [Bool.and_eq_true, decide_eq_true_eq] at hc
    obtain ⟨⟨⟨c1, c2⟩, c3⟩, c4⟩ := hc
    intro t s G
    obtain ⟨lo, stk, u, hp⟩ := s
    obtain ⟨v, w, st, rfl, hl, h1, h2⟩ := sf_pop2 G
    obtain ⟨y, hy⟩ := h1.1 rfl
    obtain ⟨x, hx⟩ := h2.1 rfl
    cases hy
    cases hx
    have vy : sf_val (lo, .int y :: .int x :: st, u, hp) (3 * (jt.length + 1)) = some y.toInt := sf_val_py1 hl
    have vx : sf_val (lo, .int y :: .int x :: st, u, hp) (3 * jt.length) = some x.toInt := sf_val_px hl
    have ry := sf_i_ok (sf_val_range _) G.2.2.2.1 vy
    have rx := sf_i_ok (sf_val_range _) G.2.2.2.1 vx
    have hcat : ab_cats st ≤ 8 := Nat.le_trans (sf_cat_ok hl (sf_stail (js := [(0, a, b), (0, a', b')]) (xs := [.int y, .int x]) G rfl) c1) c2
    have hu := G.2.2.2.2
    refine ⟨(lo, .int (sf_mf k x y) :: st, u, hp), t, ?_, sf_two G hl sf_j0 (sf_rs_ok (sf_val_py hl) fun _ => ?_), sf_fr_rf⟩
    · show cond (decide (ab_cats st ≤ 8) && decide (u.1 ≤ MC) && decide (u.2 ≤ MS)) _ _ = _
      rw [decide_eq_true hcat, decide_eq_true (Nat.le_trans hu.1 c3), decide_eq_true (Nat.le_trans hu.2 c4)]
      rfl
    · have r1 := rx.1
      have r2 := rx.2
      have r3 := ry.1
      have r4 := ry.2
      match k with
      | 0 =>
        have e : (sf_mf 0 x y).toInt = max x.toInt y.toInt := n_max
        rw [e]
        constructor
        · show max (sf_i F (3 * jt.length)).1 (sf_i F (3 * (jt.length + 1))).1 ≤ _
          replace r1 : (sf_i F (3 * jt.length)).1 ≤ x.toInt := r1
          replace r3 : (sf_i F (3 * (jt.length + 1))).1 ≤ y.toInt := r3
          omega
        · show _ ≤ max (sf_i F (3 * jt.length)).2 (sf_i F (3 * (jt.length + 1))).2
          replace r2 : x.toInt ≤ (sf_i F (3 * jt.length)).2 := r2
          replace r4 : y.toInt ≤ (sf_i F (3 * (jt.length + 1))).2 := r4
          omega
      | k + 1 =>
        have e : (sf_mf (k + 1) x y).toInt = min x.toInt y.toInt := n_min
        rw [e]
        constructor
        · show min (sf_i F (3 * jt.length)).1 (sf_i F (3 * (jt.length + 1))).1 ≤ _
          replace r1 : (sf_i F (3 * jt.length)).1 ≤ x.toInt := r1
          replace r3 : (sf_i F (3 * (jt.length + 1))).1 ≤ y.toInt := r3
          omega
        · show _ ≤ min (sf_i F (3 * jt.length)).2 (sf_i F (3 * (jt.length + 1))).2
          replace r2 : x.toInt ≤ (sf_i F (3 * jt.length)).2 := r2
          replace r4 : y.toInt ≤ (sf_i F (3 * (jt.length + 1))).2 := r4
          omega
  · cases h
