/-! ===== steps over what is known: fields ===== -/
def sf_kj (k : sf_K) : sf_J := (k.1, k.2.1.toNat, k.2.2.toNat)
theorem sf_kj_ok {t : Nat → Nat} {n : Nat} {k : sf_K} {v : Value} (h : sf_v t n k v) : sf_j t n (sf_kj k) (some v) := by
  cases v with
  | int x =>
    have h0 : k.1 = 0 := h.1
    refine ⟨fun _ => ⟨x, rfl⟩, fun e => ?_, fun e => ?_, fun e => ?_, fun e => ?_⟩ <;> exact absurd (h0.symm.trans e) (by decide)
  | ref a =>
    have h0 : k.1 = 1 := h.1
    have h2 : (t a : Int) = k.2.1 := h.2.2
    refine ⟨fun e => ?_, fun _ => .inl ⟨a, rfl, h.2.1, ?_⟩, fun e => ?_, fun e => ?_, fun e => ?_⟩
    · exact absurd (h0.symm.trans e) (by decide)
    · show t a = k.2.1.toNat
      omega
    · exact absurd (h0.symm.trans e) (by decide)
    · exact absurd (h0.symm.trans e) (by decide)
    · exact absurd (h0.symm.trans e) (by decide)
  | null =>
    have h0 : k.1 = 1 := h.1
    have h2 : k.2.2 = 1 := h.2
    refine ⟨fun e => ?_, fun _ => .inr ⟨?_, rfl⟩, fun e => ?_, fun e => ?_, fun e => ?_⟩
    · exact absurd (h0.symm.trans e) (by decide)
    · show k.2.2.toNat = 1
      omega
    · exact absurd (h0.symm.trans e) (by decide)
    · exact absurd (h0.symm.trans e) (by decide)
    · exact absurd (h0.symm.trans e) (by decide)
  | long x =>
    have h0 : k.1 = 2 := h
    refine ⟨fun e => ?_, fun e => ?_, fun _ => ⟨x, rfl⟩, fun e => ?_, fun e => ?_⟩ <;> exact absurd (h0.symm.trans e) (by decide)
  | _ => exact h.elim
/-- a value of a kind on the stack fits a field -/
def sf_ft (k : sf_K) (j : sf_J) (i : Int × Int) : Bool :=
  (decide (k.1 = 0) && decide (j.1 = 0) && decide (k.2.1 ≤ i.1) && decide (i.2 ≤ k.2.2)) ||
  (decide (k.1 = 1) && decide (j.1 = 1) && decide (k.2.1 = (j.2.1 : Int)) && (decide (j.2.2 ≠ 1) || decide (k.2.2 = 1))) ||
  (decide (k.1 = 2) && decide (j.1 = 2))
theorem sf_ft_ok {t : Nat → Nat} {n : Nat} {k : sf_K} {j : sf_J} {i : Int × Int} {v : Value} (h : sf_ft k j i = true) (hj : sf_j t n j (some v)) (hi : ∀ x, v = .int x → i.1 ≤ x.toInt ∧ x.toInt ≤ i.2) : sf_v t n k v := by
  unfold sf_ft at h
  simp only [Bool.or_eq_true, Bool.and_eq_true, decide_eq_true_eq] at h
  rcases h with (h | h) | h
  · obtain ⟨x, hx⟩ := hj.1 h.1.1.2
    cases hx
    have := hi x rfl
    exact ⟨h.1.1.1, Int.le_trans h.1.2 this.1, Int.le_trans this.2 h.2⟩
  · rcases hj.2.1 h.1.1.2 with ⟨a, hx, h1, h2⟩ | ⟨h1, hx⟩
    · cases hx
      exact ⟨h.1.1.1, h1, by rw [h2]; exact h.1.2.symm⟩
    · cases hx
      exact ⟨h.1.1.1, h.2.resolve_left (fun e => e h1)⟩
  · obtain ⟨x, hx⟩ := hj.2.2.1 h.2
    cases hx
    exact h.1
/-- the place of a number of the heap, where its sort has one cell alone -/
def sf_lp (g i : Nat) : Nat := 3 * (1000 * (g + 1) + i) + 2
def sf_un (g i : Nat) : Bool := (sf_P g).isSome && decide (i < 1000)
theorem sf_val_lp {t : Nat → Nat} {lo : List (Option Value)} {st : List Value} {u : Nat × Nat} {hp : ab_H} {g i a : Nat} (H : sf_h t hp) (ha : a < hp.1) (ht : t a = g) (hu : sf_un g i = true) : sf_val (lo, st, u, hp) (sf_lp g i) = sf_rd hp a i := by
  unfold sf_un at hu
  rw [Bool.and_eq_true, decide_eq_true_eq] at hu
  obtain ⟨q, hq⟩ := Option.isSome_iff_exists.mp hu.1
  have e : a = q := H.2.1 a q ha (by rw [ht]; exact hq)
  unfold sf_val sf_lp
  rw [decide_eq_false (show ¬ (3 * (1000 * (g + 1) + i) + 2) % 3 = 0 by omega), decide_eq_false (show ¬ (3 * (1000 * (g + 1) + i) + 2) % 3 = 1 by omega), show (3 * (1000 * (g + 1) + i) + 2) / 3 = 1000 * (g + 1) + i by omega]
  show sf_lc lo hp (1000 * (g + 1) + i) = _
  unfold sf_lc
  rw [decide_eq_false (show ¬ 1000 * (g + 1) + i < 1000 by omega), show (1000 * (g + 1) + i) / 1000 - 1 = g by omega, show (1000 * (g + 1) + i) % 1000 = i by omega, hq, ← e]
  rfl
/-- what a number read of the heap is known to be -/
def sf_rdf (p g i : Nat) (k : sf_K) : List sf_F := cond (decide (k.1 = 0)) ((1, p, 0, k.2.1, k.2.2, 0) :: cond (sf_un g i) [(2, p, sf_lp g i, 1, 0, 0)] []) []
theorem sf_rd_obj {hp : ab_H} {a c i : Nat} {fs : List Value} {x : Int32} (h : hp.2 a = .inr (c, fs)) (hi : fs[i]? = some (.int x)) : sf_rd hp a i = some x.toInt := by
  unfold sf_rd
  rw [h]
  show sf_iv fs[i]? = _
  rw [hi]
  rfl
def so_getf (ci i : Nat) (d : sf_D) : Option sf_D := match d.2.1 with
  | (1, g, n) :: jt => match (sf_C g)[i]? with
    | some k => cond (decide (sf_o g = ci) && decide (g < 100) && decide (n ≠ 1)) (some (d.1, sf_kj k :: jt, sf_k (sf_bS jt.length) d.2.2.1 ++ sf_rdf (3 * jt.length) g i k, d.2.2.2)) none
    | none => none
  | _ => none
theorem so_getf_ok {W : List (Nat × Nat × Nat)} {ci i : Nat} {d d' : sf_D} (h : so_getf ci i d = some d') : sf_nx W (ab_getf ci i) d d' := by
  obtain ⟨d1, d2, F, U, V⟩ := d
  unfold so_getf at h
  dsimp only at h
  split at h
  · rename_i g n jt
    split at h
    · rename_i k hk
      obtain ⟨hc, h⟩ := ab_cond h
      subst h
      simp only [Bool.and_eq_true, decide_eq_true_eq] at hc
      obtain ⟨⟨rfl, hc2⟩, hc3⟩ := hc
      intro t s G
      obtain ⟨lo, stk, u, hp⟩ := s
      obtain ⟨v, st, rfl, hl, h1⟩ := sf_pop1 G
      rcases h1.2.1 rfl with ⟨a, hx, ha, hta⟩ | ⟨hx, -⟩
      · cases hx
        have H : sf_h t hp := G.1
        have ha' : a < hp.1 := ha
        have hta' : t a = g := hta
        obtain ⟨fs, w, e1, e2, e3⟩ := sf_get H ha' hta' hc2 hk
        refine ⟨(lo, w :: st, u, hp), t, ?_, sf_sin G hl (sf_kj_ok e3) ?_, sf_fr_rf⟩
        · show cond (decide (a < hp.1)) _ _ = _
          rw [decide_eq_true ha']
          show (match hp.2 a with
            | .inr o => cond (o.1 == sf_o g) (match o.2[i]? with
              | some v => some (lo, v :: st, u, hp)
              | none => none) none
            | _ => none) = _
          rw [e1]
          show cond (sf_o g == sf_o g) (match fs[i]? with
            | some v => some (lo, v :: st, u, hp)
            | none => none) none = _
          rw [e2, beq_self_eq_true]
          rfl
        · unfold sf_rdf
          by_cases k0 : k.1 = 0
          · rw [decide_eq_true k0]
            cases w with
            | int x =>
              have vr : sf_val (lo, .int x :: st, u, hp) (3 * jt.length) = some x.toInt := sf_val_py hl
              refine sf_S_cons (sf_s1 vr e3.2.1 e3.2.2) ?_
              cases hu : sf_un g i with
              | false => exact sf_S_nil
              | true =>
                refine sf_S_cons (sf_s2 vr (y := x.toInt) ?_ (by omega)) sf_S_nil
                rw [sf_val_lp H ha' hta' hu]
                exact sf_rd_obj e1 e2
            | ref a => exact absurd (k0.symm.trans e3.1) (by decide)
            | null => exact absurd (k0.symm.trans e3.1) (by decide)
            | long x => exact absurd (k0.symm.trans e3) (by decide)
            | _ => exact e3.elim
          · rw [decide_eq_false k0]
            exact sf_S_nil
      · exact absurd hx hc3
    · cases h
  · cases h
/-- the places of the heap's numbers that a write to i0 .. i1 of the sort g may change -/
def sf_bH (g i0 i1 p : Nat) : Bool := decide (p % 3 = 2) && (decide (p / 3 < 1000) || (decide (p / 3 / 1000 = g + 1) && decide (i0 ≤ p / 3 % 1000) && decide (p / 3 % 1000 ≤ i1)))
theorem sf_val_hp {t : Nat → Nat} {lo : List (Option Value)} {st : List Value} {u u' : Nat × Nat} {hp hp' : ab_H} {g i0 i1 p : Nat} (H : sf_h t hp) (hr : ∀ b i, b < hp.1 → (t b = g → ¬ (i0 ≤ i ∧ i ≤ i1)) → sf_rd hp' b i = sf_rd hp b i) (hb : sf_bH g i0 i1 p = false) : sf_val (lo, st, u', hp') p = sf_val (lo, st, u, hp) p := by
  unfold sf_val
  dsimp only
  by_cases h0 : p % 3 = 0
  · rw [decide_eq_true h0]
    rfl
  · rw [decide_eq_false h0]
    by_cases h1 : p % 3 = 1
    · rw [decide_eq_true h1]
      rfl
    · rw [decide_eq_false h1]
      show sf_lc lo hp' (p / 3) = sf_lc lo hp (p / 3)
      unfold sf_bH at hb
      rw [decide_eq_true (show p % 3 = 2 by omega), Bool.true_and, Bool.or_eq_false_iff, decide_eq_false_iff_not] at hb
      unfold sf_lc
      rw [decide_eq_false hb.1]
      show (match sf_P (p / 3 / 1000 - 1) with
        | some a => sf_rd hp' a (p / 3 % 1000)
        | none => none) = (match sf_P (p / 3 / 1000 - 1) with
        | some a => sf_rd hp a (p / 3 % 1000)
        | none => none)
      cases hq : sf_P (p / 3 / 1000 - 1) with
      | none => rfl
      | some q =>
        obtain ⟨q1, q2⟩ := H.2.2.1 _ _ hq
        refine hr q _ q1 fun e => ?_
        intro hi
        have hb2 := hb.2
        have hg : p / 3 / 1000 = g + 1 := by
          have : p / 3 / 1000 - 1 = g := q2.symm.trans e
          have := hb.1
          omega
        rw [decide_eq_true hg, decide_eq_true hi.1, decide_eq_true hi.2] at hb2
        cases hb2
theorem sf_fr_up {W : List (Nat × Nat × Nat)} {t : Nat → Nat} {hp : ab_H} {a i0 i1 : Nat} {c : ab_E} (hW : ∀ i, i0 ≤ i → i ≤ i1 → sf_inW W (t a) i = true) (hn : i0 ≤ i1) (hr : ∀ i, ¬ (i0 ≤ i ∧ i ≤ i1) → sf_rd (ab_up hp a c) a i = sf_rd hp a i) (hm : sf_mk W = true ∨ a ≠ 69 ∨ (¬ (i0 ≤ 4 ∧ 4 ≤ i1) ∧ ¬ (i0 ≤ 11 ∧ 11 ≤ i1))) : sf_fr W t hp t (ab_up hp a c) := by
  refine ⟨Nat.le_refl _, fun _ _ => rfl, fun b _ i hi => ?_, fun b _ hw => ?_, fun hk => ?_⟩
  · by_cases e : b = a
    · subst e
      exact hr i fun h => by
        rw [hW i h.1 h.2] at hi
        cases hi
    · exact sf_rd_up_ne e
  · have e : b ≠ a := fun e => by
      subst e
      have h1 := hW i0 (Nat.le_refl _) hn
      unfold sf_inW at h1
      obtain ⟨w, hw1, hw2⟩ := List.any_eq_true.mp h1
      have h2 := List.all_eq_true.mp hw w hw1
      simp only [Bool.and_eq_true, decide_eq_true_eq] at hw2 h2
      exact h2 hw2.1.1
    show (if b = a then c else hp.2 b) = hp.2 b
    rw [if_neg e]
  · have e : sf_rd (ab_up hp a c) 69 4 = sf_rd hp 69 4 ∧ sf_rd (ab_up hp a c) 69 11 = sf_rd hp 69 11 := by
      rcases hm with h | h | h
      · rw [h] at hk
        cases hk
      · exact ⟨sf_rd_up_ne (Ne.symm h), sf_rd_up_ne (Ne.symm h)⟩
      · by_cases e : 69 = a
        · subst e
          exact ⟨hr 4 h.1, hr 11 h.2⟩
        · exact ⟨sf_rd_up_ne e, sf_rd_up_ne e⟩
    unfold sf_psi
    rw [e.1, e.2]
    exact Int.le_refl _
theorem sf_n69 {t : Nat → Nat} {hp : ab_H} (H : sf_h t hp) {a g : Nat} (ht : t a = g) (hg : 100 ≤ g) : a ≠ 69 := fun e => by
  have := (H.2.2.1 11 69 rfl).2
  rw [e] at ht
  omega
theorem sf_rd_up_obj {hp : ab_H} {a c i : Nat} {fs : List Value} : sf_rd (ab_up hp a (.inr (c, fs))) a i = sf_iv fs[i]? := by
  unfold sf_rd
  rw [ab_up_eq]
