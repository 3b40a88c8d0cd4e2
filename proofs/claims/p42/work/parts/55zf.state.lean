/-! ===== what is known of a state ===== -/
/-- of a local or of a value on the stack: (0, _, _) an int; (1, g, n) a reference to a cell of the sort g (null too where n is 1); (2, _, _) a long; (3, i, _) the i-th thing that was there before; (8, _, _) no long; else nothing -/
abbrev sf_J : Type := Nat × Nat × Nat
def sf_j (t : Nat → Nat) (n : Nat) (j : sf_J) (v : Option Value) : Prop :=
  (j.1 = 0 → ∃ x, v = some (.int x)) ∧
  (j.1 = 1 → (∃ a, v = some (.ref a) ∧ a < n ∧ t a = j.2.1) ∨ (j.2.2 = 1 ∧ v = some .null)) ∧
  (j.1 = 2 → ∃ x, v = some (.long x)) ∧
  (j.1 = 3 → v = some (.retAddr j.2.1)) ∧
  (j.1 = 8 → (∀ x, v ≠ some (.long x)) ∧ ∀ x, v ≠ some (.double x))
abbrev sf_D : Type := List sf_J × List sf_J × List sf_F × Nat × Nat
/-- the number at a place of the heap: below 1000 the field of the object in local 0, else sort, one more, and place in it -/
def sf_lc (lo : List (Option Value)) (hp : ab_H) (l : Nat) : Option Int := cond (decide (l < 1000)) (match (lo[0]? : Option (Option Value)) with
    | some (some (.ref a)) => sf_rd hp a l
    | _ => none) (match sf_P (l / 1000 - 1) with
    | some a => sf_rd hp a (l % 1000)
    | none => none)
/-- the number at a place: 3 h the h-th value of the stack from below, 3 i + 1 local i, 3 l + 2 the heap -/
def sf_val (s : ab_S) (p : Nat) : Option Int := cond (decide (p % 3 = 0)) (sf_iv (s.2.1.reverse[p / 3]?)) (cond (decide (p % 3 = 1)) (sf_iv (s.1[p / 3]?).join) (sf_lc s.1 s.2.2.2 (p / 3)))
theorem sf_iv_range {v : Option Value} {y : Int} (h : sf_iv v = some y) : -2147483648 ≤ y ∧ y ≤ 2147483647 := by
  unfold sf_iv at h
  split at h
  · rename_i x
    have e := Option.some.inj h
    have h1 := Int32.le_toInt x
    have h2 := Int32.toInt_lt x
    omega
  · cases h
theorem sf_rd_range {hp : ab_H} {a i : Nat} {y : Int} (h : sf_rd hp a i = some y) : -2147483648 ≤ y ∧ y ≤ 2147483647 := by
  unfold sf_rd at h
  split at h
  · exact sf_iv_range h
  · split at h
    · rename_i f _
      cases hc : decide (i < _) with
      | false => rw [hc] at h; cases h
      | true =>
        rw [hc] at h
        have e := Option.some.inj h
        have h1 := Int32.le_toInt (f i)
        have h2 := Int32.toInt_lt (f i)
        omega
    · cases h
theorem sf_val_range (s : ab_S) (p : Nat) (y : Int) (h : sf_val s p = some y) : -2147483648 ≤ y ∧ y ≤ 2147483647 := by
  unfold sf_val at h
  cases h1 : decide (p % 3 = 0) with
  | true => rw [h1] at h; exact sf_iv_range h
  | false =>
    rw [h1] at h
    cases h2 : decide (p % 3 = 1) with
    | true => rw [h2] at h; exact sf_iv_range h
    | false =>
      rw [h2] at h
      replace h : sf_lc s.1 s.2.2.2 (p / 3) = some y := h
      unfold sf_lc at h
      cases h3 : decide (p / 3 < 1000) with
      | true =>
        rw [h3] at h
        dsimp only [cond] at h
        split at h
        · exact sf_rd_range h
        · cases h
      | false =>
        rw [h3] at h
        dsimp only [cond] at h
        split at h
        · exact sf_rd_range h
        · cases h
def sf_g (t : Nat → Nat) (d : sf_D) (s : ab_S) : Prop := sf_h t s.2.2.2 ∧
  (s.1.length = d.1.length ∧ ∀ (i : Nat) (j : sf_J), d.1[i]? = some j → sf_j t s.2.2.2.1 j (s.1[i]?).join) ∧
  (s.2.1.length = d.2.1.length ∧ ∀ (i : Nat) (j : sf_J), d.2.1[i]? = some j → sf_j t s.2.2.2.1 j s.2.1[i]?) ∧
  sf_S (sf_val s) d.2.2.1 ∧ s.2.2.1.1 ≤ d.2.2.2.1 ∧ s.2.2.1.2 ≤ d.2.2.2.2
/-- the places of the stack from a height on -/
def sf_bS (k p : Nat) : Bool := decide (p % 3 = 0) && decide (k ≤ p / 3)
theorem sf_val_stk {lo : List (Option Value)} {xs ys st : List Value} {r : (Nat × Nat) × ab_H} {p : Nat} (hb : sf_bS st.length p = false) : sf_val (lo, ys ++ st, r) p = sf_val (lo, xs ++ st, r) p := by
  unfold sf_val
  dsimp only
  cases h1 : decide (p % 3 = 0) with
  | false => rfl
  | true =>
    have hk : p / 3 < st.length := by
      unfold sf_bS at hb
      rw [h1, Bool.true_and, decide_eq_false_iff_not] at hb
      omega
    show sf_iv ((ys ++ st).reverse[p / 3]?) = sf_iv ((xs ++ st).reverse[p / 3]?)
    rw [List.reverse_append, List.reverse_append, List.getElem?_append_left (by rw [List.length_reverse]; exact hk), List.getElem?_append_left (by rw [List.length_reverse]; exact hk)]
theorem sf_val_top {lo : List (Option Value)} {v : Value} {st : List Value} {r : (Nat × Nat) × ab_H} : sf_val (lo, v :: st, r) (3 * st.length) = sf_iv (some v) := by
  unfold sf_val
  rw [show 3 * st.length % 3 = 0 by omega, show 3 * st.length / 3 = st.length by omega]
  show sf_iv ((v :: st).reverse[st.length]?) = _
  rw [List.reverse_cons, List.getElem?_append_right (by rw [List.length_reverse]; exact Nat.le_refl _), List.length_reverse, Nat.sub_self]
  rfl
theorem sf_val_snd {lo : List (Option Value)} {v w : Value} {st : List Value} {r : (Nat × Nat) × ab_H} : sf_val (lo, v :: w :: st, r) (3 * st.length) = sf_iv (some w) := by
  have h : sf_bS (w :: st).length (3 * st.length) = false := by
    unfold sf_bS
    rw [show 3 * st.length / 3 = st.length by omega]
    simp
  exact (sf_val_stk (xs := []) (ys := [v]) h).trans sf_val_top
/-- only the stack changes -/
theorem sf_stk {t : Nat → Nat} {d : sf_D} {lo : List (Option Value)} {xs st ys : List Value} {js jt js' : List sf_J} {F A : List sf_F} {u : Nat × Nat} {hp : ab_H} {U V : Nat}
    (G : sf_g t (d.1, js ++ jt, F, U, V) (lo, xs ++ st, u, hp)) (hx : xs.length = js.length) (hy : ys.length = js'.length) (hj : ∀ (i : Nat) (j : sf_J), js'[i]? = some j → sf_j t hp.1 j ys[i]?)
    (hA : sf_S (sf_val (lo, ys ++ st, u, hp)) A) : sf_g t (d.1, js' ++ jt, sf_k (sf_bS st.length) F ++ A, U, V) (lo, ys ++ st, u, hp) := by
  obtain ⟨H, hl, hs, hF, hu⟩ := G
  have hlen : st.length = jt.length := by
    have := hs.1
    simp only [List.length_append] at this
    omega
  refine ⟨H, hl, ⟨?_, fun i j h => ?_⟩, sf_S_app (sf_k_ok (fun q hq => sf_val_stk (xs := xs) hq) hF) hA, hu⟩
  · show (ys ++ st).length = (js' ++ jt).length
    rw [List.length_append, List.length_append, hy, hlen]
  · show sf_j t hp.1 j (ys ++ st)[i]?
    by_cases hi : i < js'.length
    · rw [List.getElem?_append_left (by rw [hy]; exact hi)]
      exact hj i j (by rw [← List.getElem?_append_left (l₂ := jt) hi]; exact h)
    · have hi' : js'.length ≤ i := Nat.not_lt.mp hi
      rw [List.getElem?_append_right (by rw [hy]; exact hi'), hy]
      replace h : (js' ++ jt)[i]? = some j := h
      rw [List.getElem?_append_right hi'] at h
      have h2 := hs.2 (js.length + (i - js'.length)) j (by
        show (js ++ jt)[js.length + (i - js'.length)]? = some j
        rw [List.getElem?_append_right (Nat.le_add_right _ _), Nat.add_sub_cancel_left]
        exact h)
      replace h2 : sf_j t hp.1 j (xs ++ st)[js.length + (i - js'.length)]? := h2
      rw [List.getElem?_append_right (by rw [hx]; exact Nat.le_add_right _ _), hx, Nat.add_sub_cancel_left] at h2
      exact h2
theorem sf_add {t : Nat → Nat} {d1 d2 : List sf_J} {F A : List sf_F} {U V : Nat} {s : ab_S} (G : sf_g t (d1, d2, F, U, V) s) (hA : sf_S (sf_val s) A) : sf_g t (d1, d2, F ++ A, U, V) s :=
  ⟨G.1, G.2.1, G.2.2.1, sf_S_app G.2.2.2.1 hA, G.2.2.2.2⟩
/-- what follows for other places when a place's number is known to lie in lo .. hi -/
def sf_rf (F : List sf_F) : Nat → Nat → Int → Int → List sf_F
  | 0, p, lo, hi => [(1, p, 0, lo, hi, 0)]
  | k + 1, p, lo, hi => (1, p, 0, lo, hi, 0) :: F.flatMap (fun f =>
      cond (decide (f.1 = 2) && decide (f.2.1 = p) && decide (f.2.2.2.1 = 1)) (sf_rf F k f.2.2.1 (lo - f.2.2.2.2.1) (hi - f.2.2.2.2.1))
      (cond (decide (f.1 = 3) && decide (f.2.1 = p) && (decide (f.2.2.2.2.2 < lo) || decide (hi < f.2.2.2.2.2))) (sf_rf F k f.2.2.1 f.2.2.2.1 f.2.2.2.2.1) []))
theorem sf_rf_ok {v : Nat → Option Int} {F : List sf_F} (hF : sf_S v F) : ∀ (k p : Nat) (lo hi x : Int), v p = some x → lo ≤ x → x ≤ hi → sf_S v (sf_rf F k p lo hi)
  | 0, p, lo, hi, x, hx, h1, h2 => sf_S_cons (sf_s1 hx h1 h2) sf_S_nil
  | k + 1, p, lo, hi, x, hx, h1, h2 => by
    refine sf_S_cons (sf_s1 hx h1 h2) ?_
    intro f hf
    obtain ⟨g, hg, hf⟩ := List.mem_flatMap.mp hf
    cases c1 : (decide (g.1 = 2) && decide (g.2.1 = p) && decide (g.2.2.2.1 = 1)) with
    | true =>
      rw [c1] at hf
      simp only [Bool.and_eq_true, decide_eq_true_eq] at c1
      obtain ⟨y, z, e1, e2, e3⟩ := (hF g hg).2.1 c1.1.1
      rw [c1.1.2, hx] at e1
      cases e1
      rw [c1.2] at e3
      exact sf_rf_ok hF k _ _ _ z e2 (by omega) (by omega) f hf
    | false =>
      rw [c1] at hf
      cases c2 : (decide (g.1 = 3) && decide (g.2.1 = p) && (decide (g.2.2.2.2.2 < lo) || decide (hi < g.2.2.2.2.2))) with
      | true =>
        rw [c2] at hf
        simp only [Bool.and_eq_true, Bool.or_eq_true, decide_eq_true_eq] at c2
        obtain ⟨y, e1, e2⟩ := (hF g hg).2.2 c2.1.1
        rw [c2.1.2, hx] at e1
        cases e1
        rcases e2 with e2 | ⟨z, e3, e4, e5⟩
        · have := c2.2
          omega
        · exact sf_rf_ok hF k _ _ _ z e3 e4 e5 f hf
      | false =>
        rw [c2] at hf
        exact absurd hf List.not_mem_nil
/-- comparisons: 0 =, 1 not =, 2 <, 3 ≤, 4 >, 5 ≥ -/
def sf_q (k : Nat) (x y : Int) : Prop := match k with
  | 0 => x = y
  | 1 => x ≠ y
  | 2 => x < y
  | 3 => x ≤ y
  | 4 => y < x
  | _ => y ≤ x
def sf_cx (k : Nat) (x y : Int × Int) : Int × Int := match k with
  | 0 => (max x.1 y.1, min x.2 y.2)
  | 1 => cond (decide (y.1 = y.2)) (cond (decide (x.1 = y.1)) (x.1 + 1, x.2) (cond (decide (x.2 = y.1)) (x.1, x.2 - 1) x)) x
  | 2 => (x.1, min x.2 (y.2 - 1))
  | 3 => (x.1, min x.2 y.2)
  | 4 => (max x.1 (y.1 + 1), x.2)
  | _ => (max x.1 y.1, x.2)
/-- the same comparison read from the other side -/
def sf_fl (k : Nat) : Nat := match k with
  | 0 => 0
  | 1 => 1
  | 2 => 4
  | 3 => 5
  | 4 => 2
  | _ => 3
theorem sf_fl_ok {k : Nat} {x y : Int} (h : sf_q k x y) : sf_q (sf_fl k) y x := by
  match k, h with
  | 0, h => exact h.symm
  | 1, h => exact fun e => h e.symm
  | 2, h => exact h
  | 3, h => exact h
  | 4, h => exact h
  | k + 5, h => exact h
theorem sf_cx_ok {k : Nat} {x y : Int} {i j : Int × Int} (h : sf_q k x y) (hx : i.1 ≤ x ∧ x ≤ i.2) (hy : j.1 ≤ y ∧ y ≤ j.2) : (sf_cx k i j).1 ≤ x ∧ x ≤ (sf_cx k i j).2 := by
  match k, h with
  | 0, h =>
    have h' : x = y := h
    exact ⟨Int.max_le.mpr ⟨hx.1, by omega⟩, Int.le_min.mpr ⟨hx.2, by omega⟩⟩
  | 1, h =>
    have h' : x ≠ y := h
    show (cond (decide (j.1 = j.2)) (cond (decide (i.1 = j.1)) (i.1 + 1, i.2) (cond (decide (i.2 = j.1)) (i.1, i.2 - 1) i)) i).1 ≤ x ∧ x ≤ (cond (decide (j.1 = j.2)) (cond (decide (i.1 = j.1)) (i.1 + 1, i.2) (cond (decide (i.2 = j.1)) (i.1, i.2 - 1) i)) i).2
    by_cases c1 : j.1 = j.2
    · rw [decide_eq_true c1]
      by_cases c2 : i.1 = j.1
      · rw [decide_eq_true c2]
        exact ⟨by show i.1 + 1 ≤ x; omega, hx.2⟩
      · rw [decide_eq_false c2]
        by_cases c3 : i.2 = j.1
        · rw [decide_eq_true c3]
          exact ⟨hx.1, by show x ≤ i.2 - 1; omega⟩
        · rw [decide_eq_false c3]
          exact hx
    · rw [decide_eq_false c1]
      exact hx
  | 2, h =>
    have h' : x < y := h
    exact ⟨hx.1, Int.le_min.mpr ⟨hx.2, by omega⟩⟩
  | 3, h =>
    have h' : x ≤ y := h
    exact ⟨hx.1, Int.le_min.mpr ⟨hx.2, by omega⟩⟩
  | 4, h =>
    have h' : y < x := h
    exact ⟨Int.max_le.mpr ⟨hx.1, by omega⟩, hx.2⟩
  | k + 5, h =>
    have h' : y ≤ x := h
    exact ⟨Int.max_le.mpr ⟨hx.1, by omega⟩, hx.2⟩
