/-! ===== steps over what is known: numbers ===== -/
def sf_top (p : Nat) : sf_F := (1, p, 0, -2147483648, 2147483647, 0)
theorem sf_top_ok {v : Nat → Option Int} {p : Nat} {x : Int32} (h : v p = some x.toInt) : sf_s v (sf_top p) := sf_s1 h (n_range x).1 (n_range x).2
theorem sf_val_py {lo : List (Option Value)} {v : Value} {st : List Value} {r : (Nat × Nat) × ab_H} {n : Nat} (h : st.length = n) : sf_val (lo, v :: st, r) (3 * n) = sf_iv (some v) := by
  subst h
  exact sf_val_top
theorem sf_val_px {lo : List (Option Value)} {v w : Value} {st : List Value} {r : (Nat × Nat) × ab_H} {n : Nat} (h : st.length = n) : sf_val (lo, v :: w :: st, r) (3 * n) = sf_iv (some w) := by
  subst h
  exact sf_val_snd
theorem sf_val_py1 {lo : List (Option Value)} {v w : Value} {st : List Value} {r : (Nat × Nat) × ab_H} {n : Nat} (h : st.length = n) : sf_val (lo, v :: w :: st, r) (3 * (n + 1)) = sf_iv (some v) := by
  subst h
  exact sf_val_top (st := w :: st)
def sf_op (k : Nat) : Int32 → Int32 → Int32 := match k with
  | 0 => fun x y => x + y
  | 1 => fun x y => x - y
  | 2 => fun x y => x * y
  | 3 => fun x y => x &&& y
  | 4 => fun x y => x ||| y
  | 5 => fun x y => x ^^^ y
  | 6 => fun x y => x <<< (y &&& 31)
  | 7 => fun x y => x >>> (y &&& 31)
  | _ => fun x y => (x.toUInt32 >>> (y.toUInt32 &&& Int32.toUInt32 31)).toInt32
/-- the range of an operation's number; empty where nothing is said -/
def sf_bi (k : Nat) (x y : Int × Int) : Int × Int := match k with
  | 0 => (x.1 + y.1, x.2 + y.2)
  | 1 => (x.1 - y.2, x.2 - y.1)
  | 2 => cond (decide (0 ≤ x.1) && decide (0 ≤ y.1)) (x.1 * y.1, x.2 * y.2) (1, 0)
  | 3 => cond (decide (0 ≤ y.1)) (0, y.2) (1, 0)
  | 8 => cond (decide (y = (8, 8))) (0, 16777215) (1, 0)
  | _ => (1, 0)
def sf_bg (r : Int × Int) : Bool := decide (-2147483648 ≤ r.1) && decide (r.2 ≤ 2147483647) && decide (r.1 ≤ r.2)
/-- the number itself, of +, - and * -/
def sf_ex (k : Nat) (x y : Int) : Int := match k with
  | 0 => x + y
  | 1 => x - y
  | _ => x * y
theorem sf_bi_ok {k : Nat} {x y : Int32} {i j : Int × Int} (hx : i.1 ≤ x.toInt ∧ x.toInt ≤ i.2) (hy : j.1 ≤ y.toInt ∧ y.toInt ≤ j.2) (hg : sf_bg (sf_bi k i j) = true) : ((sf_bi k i j).1 ≤ (sf_op k x y).toInt ∧ (sf_op k x y).toInt ≤ (sf_bi k i j).2) ∧ (k < 3 → (sf_op k x y).toInt = sf_ex k x.toInt y.toInt) := by
  unfold sf_bg at hg
  simp only [Bool.and_eq_true, decide_eq_true_eq] at hg
  match k, hg with
  | 0, hg =>
    obtain ⟨⟨g1, g2⟩, -⟩ := hg
    have g1' : -2147483648 ≤ i.1 + j.1 := g1
    have g2' : i.2 + j.2 ≤ 2147483647 := g2
    have e : (x + y).toInt = x.toInt + y.toInt := n_add (by omega) (by omega)
    refine ⟨⟨?_, ?_⟩, fun _ => e⟩
    · show i.1 + j.1 ≤ (x + y).toInt
      omega
    · show (x + y).toInt ≤ i.2 + j.2
      omega
  | 1, hg =>
    obtain ⟨⟨g1, g2⟩, -⟩ := hg
    have g1' : -2147483648 ≤ i.1 - j.2 := g1
    have g2' : i.2 - j.1 ≤ 2147483647 := g2
    have e : (x - y).toInt = x.toInt - y.toInt := n_sub (by omega) (by omega)
    refine ⟨⟨?_, ?_⟩, fun _ => e⟩
    · show i.1 - j.2 ≤ (x - y).toInt
      omega
    · show (x - y).toInt ≤ i.2 - j.1
      omega
  | 2, hg =>
    have hc : (decide (0 ≤ i.1) && decide (0 ≤ j.1)) = true := by
      cases c : (decide (0 ≤ i.1) && decide (0 ≤ j.1)) with
      | true => rfl
      | false =>
        have e : sf_bi 2 i j = (1, 0) := by
          show cond (decide (0 ≤ i.1) && decide (0 ≤ j.1)) (i.1 * j.1, i.2 * j.2) (1, 0) = _
          rw [c]
          rfl
        rw [e] at hg
        exact absurd hg.2 (by decide)
    have e : sf_bi 2 i j = (i.1 * j.1, i.2 * j.2) := by
      show cond (decide (0 ≤ i.1) && decide (0 ≤ j.1)) (i.1 * j.1, i.2 * j.2) (1, 0) = _
      rw [hc]
      rfl
    rw [e] at hg ⊢
    rw [Bool.and_eq_true, decide_eq_true_eq, decide_eq_true_eq] at hc
    obtain ⟨⟨g1, g2⟩, -⟩ := hg
    have m1 : i.1 * j.1 ≤ x.toInt * y.toInt := Int.mul_le_mul hx.1 hy.1 hc.2 (Int.le_trans hc.1 hx.1)
    have m2 : x.toInt * y.toInt ≤ i.2 * j.2 := Int.mul_le_mul hx.2 hy.2 (Int.le_trans hc.2 hy.1) (Int.le_trans hc.1 (Int.le_trans hx.1 hx.2))
    have e2 : (x * y).toInt = x.toInt * y.toInt := n_mul (Int.le_trans g1 m1) (Int.le_trans m2 g2)
    refine ⟨⟨?_, ?_⟩, fun _ => e2⟩
    · show i.1 * j.1 ≤ (x * y).toInt
      rw [e2]
      exact m1
    · show (x * y).toInt ≤ i.2 * j.2
      rw [e2]
      exact m2
  | 3, hg =>
    by_cases c : 0 ≤ j.1
    · have e : sf_bi 3 i j = (0, j.2) := by
        show cond (decide (0 ≤ j.1)) (0, j.2) (1, 0) = _
        rw [decide_eq_true c]
        rfl
      rw [e]
      have := n_and (x := x) (y := y) (by omega)
      exact ⟨⟨this.1, Int.le_trans this.2 hy.2⟩, fun h => absurd h (by decide)⟩
    · have e : sf_bi 3 i j = (1, 0) := by
        show cond (decide (0 ≤ j.1)) (0, j.2) (1, 0) = _
        rw [decide_eq_false c]
        rfl
      rw [e] at hg
      exact absurd hg.2 (by decide)
  | 8, hg =>
    by_cases c : j = (8, 8)
    · have e : sf_bi 8 i j = (0, 16777215) := by
        show cond (decide (j = (8, 8))) (0, 16777215) (1, 0) = _
        rw [decide_eq_true c]
        rfl
      rw [e]
      have hy8 : y = 8 := by
        rw [c] at hy
        exact Int32.toInt_inj.mp (Int.le_antisymm hy.2 hy.1)
      exact ⟨n_ushr hy8, fun h => absurd h (by decide)⟩
    · have e : sf_bi 8 i j = (1, 0) := by
        show cond (decide (j = (8, 8))) (0, 16777215) (1, 0) = _
        rw [decide_eq_false c]
        rfl
      rw [e] at hg
      exact absurd hg.2 (by decide)
  | 4, hg => exact absurd hg.2 (by show ¬ (1 : Int) ≤ 0; decide)
  | 5, hg => exact absurd hg.2 (by show ¬ (1 : Int) ≤ 0; decide)
  | 6, hg => exact absurd hg.2 (by show ¬ (1 : Int) ≤ 0; decide)
  | 7, hg => exact absurd hg.2 (by show ¬ (1 : Int) ≤ 0; decide)
  | k + 9, hg => exact absurd hg.2 (by show ¬ (1 : Int) ≤ 0; decide)
/-- what a number that is a q + b becomes by +, -, * with c -/
def sf_ab (k : Nat) (a b c : Int) : Int × Int := match k with
  | 0 => (a, b + c)
  | 1 => (a, b - c)
  | _ => (a * c, b * c)
theorem sf_ab_ok {k : Nat} {a b c y : Int} : sf_ex k (a * y + b) c = (sf_ab k a b c).1 * y + (sf_ab k a b c).2 := by
  match k with
  | 0 => show a * y + b + c = a * y + (b + c); omega
  | 1 => show a * y + b - c = a * y + (b - c); omega
  | k + 2 =>
    show (a * y + b) * c = a * c * y + b * c
    rw [Int.add_mul, Int.mul_assoc, Int.mul_comm y c, ← Int.mul_assoc]
/-- the facts of an operation on the two numbers at px and py; the answer comes to px, n the height -/
def sf_bf (k : Nat) (F : List sf_F) (n : Nat) : List sf_F :=
  cond (sf_bg (sf_bi k (sf_i F (3 * n)) (sf_i F (3 * (n + 1)))))
    ((1, 3 * n, 0, (sf_bi k (sf_i F (3 * n)) (sf_i F (3 * (n + 1)))).1, (sf_bi k (sf_i F (3 * n)) (sf_i F (3 * (n + 1)))).2, 0) ::
      cond (decide (k < 3) && decide ((sf_i F (3 * (n + 1))).1 = (sf_i F (3 * (n + 1))).2)) (F.filterMap (fun f => cond (decide (f.1 = 2) && decide (f.2.1 = 3 * n) && !sf_bS n f.2.2.1)
        (some (2, 3 * n, f.2.2.1, (sf_ab k f.2.2.2.1 f.2.2.2.2.1 (sf_i F (3 * (n + 1))).1).1, (sf_ab k f.2.2.2.1 f.2.2.2.2.1 (sf_i F (3 * (n + 1))).1).2, 0)) none)) [])
    [sf_top (3 * n)]
/-- the same where the number below is known -/
def sf_bx (k : Nat) (F : List sf_F) (n : Nat) : List sf_F :=
  cond (sf_bg (sf_bi k (sf_i F (3 * n)) (sf_i F (3 * (n + 1)))) && (decide (k = 0) || decide (k = 2)) && decide ((sf_i F (3 * n)).1 = (sf_i F (3 * n)).2))
    (F.filterMap (fun f => cond (decide (f.1 = 2) && decide (f.2.1 = 3 * (n + 1)) && !sf_bS n f.2.2.1)
        (some (2, 3 * n, f.2.2.1, (sf_ab k f.2.2.2.1 f.2.2.2.2.1 (sf_i F (3 * n)).1).1, (sf_ab k f.2.2.2.1 f.2.2.2.2.1 (sf_i F (3 * n)).1).2, 0)) none)) []
theorem sf_ex_comm {k : Nat} (h : k = 0 ∨ k = 2) {x y : Int} : sf_ex k x y = sf_ex k y x := by
  rcases h with rfl | rfl
  · exact Int.add_comm x y
  · exact Int.mul_comm x y
def so_bin (k : Nat) (d : sf_D) : Option sf_D := match d.2.1 with
  | (0, _, _) :: (0, _, _) :: jt => some (d.1, (0, 0, 0) :: jt, sf_k (sf_bS jt.length) d.2.2.1 ++ (sf_bf k d.2.2.1 jt.length ++ sf_bx k d.2.2.1 jt.length), d.2.2.2)
  | _ => none
theorem so_bin_ok {W : List (Nat × Nat × Nat)} {k : Nat} {d d' : sf_D} (h : so_bin k d = some d') : sf_nx W (ab_bin (sf_op k)) d d' := by
  obtain ⟨d1, d2, F, U, V⟩ := d
  unfold so_bin at h
  dsimp only at h
  split at h
  · rename_i a b a' b' jt
    obtain rfl := Option.some.inj h
    intro t s G
    obtain ⟨lo, stk, u, hp⟩ := s
    obtain ⟨v, w, st, rfl, hl, h1, h2⟩ := sf_pop2 G
    obtain ⟨y, hy⟩ := h1.1 rfl
    obtain ⟨x, hx⟩ := h2.1 rfl
    cases hy
    cases hx
    have vy : sf_val (lo, .int y :: .int x :: st, u, hp) (3 * (jt.length + 1)) = some y.toInt := sf_val_py1 hl
    have vx : sf_val (lo, .int y :: .int x :: st, u, hp) (3 * jt.length) = some x.toInt := sf_val_px hl
    have hF := G.2.2.2.1
    have ry := sf_i_ok (sf_val_range _) hF vy
    have rx := sf_i_ok (sf_val_range _) hF vx
    have vr : sf_val (lo, .int (sf_op k x y) :: st, u, hp) (3 * jt.length) = some (sf_op k x y).toInt := sf_val_py hl
    refine ⟨(lo, .int (sf_op k x y) :: st, u, hp), t, rfl, ?_, sf_fr_rf⟩
    have := sf_stk (d := (d1, [], [], 0, 0)) (xs := [.int y, .int x]) (ys := [.int (sf_op k x y)]) (js := [(0, a, b), (0, a', b')]) (js' := [(0, 0, 0)]) (A := sf_bf k F jt.length ++ sf_bx k F jt.length) G rfl rfl (sf_one sf_j0) (sf_S_app ?_ ?_)
    · rw [hl] at this
      exact this
    · unfold sf_bf
      cases hg : sf_bg (sf_bi k (sf_i F (3 * jt.length)) (sf_i F (3 * (jt.length + 1)))) with
      | false => exact sf_S_cons (sf_top_ok vr) sf_S_nil
      | true =>
        obtain ⟨⟨g1, g2⟩, g3⟩ := sf_bi_ok rx ry hg
        refine sf_S_cons (sf_s1 vr g1 g2) ?_
        cases hc : (decide (k < 3) && decide ((sf_i F (3 * (jt.length + 1))).1 = (sf_i F (3 * (jt.length + 1))).2)) with
        | false => exact sf_S_nil
        | true =>
          rw [Bool.and_eq_true, decide_eq_true_eq, decide_eq_true_eq] at hc
          intro f hf
          obtain ⟨f0, hf0, e⟩ := List.mem_filterMap.mp hf
          cases hq : (decide (f0.1 = 2) && decide (f0.2.1 = 3 * jt.length) && !sf_bS jt.length f0.2.2.1) with
          | false =>
            rw [hq] at e
            cases e
          | true =>
            rw [hq] at e
            obtain rfl := Option.some.inj e
            simp only [Bool.and_eq_true, decide_eq_true_eq, Bool.not_eq_true'] at hq
            obtain ⟨x', y', e1, e2, e3⟩ := (hF f0 hf0).2.1 hq.1.1
            rw [hq.1.2, vx] at e1
            cases e1
            refine sf_s2 vr (y := y') ?_ ?_
            · have := sf_val_stk (lo := lo) (xs := [.int y, .int x]) (ys := [.int (sf_op k x y)]) (st := st) (r := (u, hp)) (p := f0.2.2.1) (by rw [hl]; exact hq.2)
              exact this.trans e2
            · rw [g3 hc.1, e3]
              have ey : y.toInt = (sf_i F (3 * (jt.length + 1))).1 := by
                have r1 := ry.1
                have r2 := ry.2
                rw [← hc.2] at r2
                exact Int.le_antisymm r2 r1
              rw [ey]
              exact sf_ab_ok
    · unfold sf_bx
      cases hc : (sf_bg (sf_bi k (sf_i F (3 * jt.length)) (sf_i F (3 * (jt.length + 1)))) && (decide (k = 0) || decide (k = 2)) && decide ((sf_i F (3 * jt.length)).1 = (sf_i F (3 * jt.length)).2)) with
      | false => exact sf_S_nil
      | true =>
        rw [Bool.and_eq_true, Bool.and_eq_true, Bool.or_eq_true, decide_eq_true_eq, decide_eq_true_eq, decide_eq_true_eq] at hc
        obtain ⟨⟨hg, hk⟩, hcx⟩ := hc
        obtain ⟨-, g3⟩ := sf_bi_ok rx ry hg
        intro f hf
        obtain ⟨f0, hf0, e⟩ := List.mem_filterMap.mp hf
        cases hq : (decide (f0.1 = 2) && decide (f0.2.1 = 3 * (jt.length + 1)) && !sf_bS jt.length f0.2.2.1) with
        | false =>
          rw [hq] at e
          cases e
        | true =>
          rw [hq] at e
          obtain rfl := Option.some.inj e
          simp only [Bool.and_eq_true, decide_eq_true_eq, Bool.not_eq_true'] at hq
          obtain ⟨x', y', e1, e2, e3⟩ := (hF f0 hf0).2.1 hq.1.1
          rw [hq.1.2, vy] at e1
          cases e1
          refine sf_s2 vr (y := y') ?_ ?_
          · have := sf_val_stk (lo := lo) (xs := [.int y, .int x]) (ys := [.int (sf_op k x y)]) (st := st) (r := (u, hp)) (p := f0.2.2.1) (by rw [hl]; exact hq.2)
            exact this.trans e2
          · rw [g3 (by omega), sf_ex_comm hk, e3]
            have ex : x.toInt = (sf_i F (3 * jt.length)).1 := by
              have r1 := rx.1
              have r2 := rx.2
              rw [← hcx] at r2
              exact Int.le_antisymm r2 r1
            rw [ex]
            exact sf_ab_ok
  · cases h
