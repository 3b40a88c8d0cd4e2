/-! ===== CONTRACTS: what a method asks and gives ===== -/
/-- kinds of the values given; facts of them (3 k: the k-th) and of the heap; the answer's kind; facts of it (0), of the values given (3 (k + 1)) and of the heap; what may change -/
abbrev sf_Q : Type := List sf_J × List sf_F × Option sf_J × List sf_F × List (Nat × Nat × Nat)
def sf_v0 (as : List Value) (hp : ab_H) : Nat → Option Int := sf_val ([], as.reverse, (0, 0), hp)
def sf_v1 (r : Option Value) (as : List Value) (hp : ab_H) : Nat → Option Int := sf_val ([], ((r.getD .null) :: as).reverse, (0, 0), hp)
def sf_an (t : Nat → Nat) (n : Nat) (j : Option sf_J) (r : Option Value) : Prop := (j = none → r = none) ∧ ∀ k, j = some k → ∃ v, r = some v ∧ sf_j t n k (some v)
def sf_ct (K : sf_Q) (X : List Value → ab_H → Option ab_O) : Prop := ∀ (t : Nat → Nat) (hp : ab_H) (as : List Value), sf_h t hp → as.length = K.1.length → (∀ (i : Nat) (j : sf_J), K.1[i]? = some j → sf_j t hp.1 j as[i]?) → sf_S (sf_v0 as hp) K.2.1 →
  ∃ (r : Option Value) (hp' : ab_H) (t' : Nat → Nat), X as hp = some (r, hp') ∧ sf_h t' hp' ∧ sf_fr K.2.2.2.2 t hp t' hp' ∧ sf_an t' hp'.1 K.2.2.1 r ∧ sf_S (sf_v1 r as hp') K.2.2.2.1
theorem sf_s_map {v v' : Nat → Option Int} {k p q p' q' : Nat} {r : Int × Int × Int} (hp : v' p' = v p) (hq : k ≠ 1 → v' q' = v q) (h : sf_s v (k, p, q, r)) : sf_s v' (k, p', q', r) := by
  refine ⟨fun e => ?_, fun e => ?_, fun e => ?_⟩
  · obtain ⟨x, hx, a⟩ := h.1 e
    exact ⟨x, hp.trans hx, a⟩
  · have e' : k = 2 := e
    obtain ⟨x, y, hx, hy, a⟩ := h.2.1 e
    exact ⟨x, y, hp.trans hx, (hq (by omega)).trans hy, a⟩
  · have e' : k = 3 := e
    obtain ⟨x, hx, a⟩ := h.2.2 e
    refine ⟨x, hp.trans hx, ?_⟩
    rcases a with a | ⟨y, hy, a⟩
    · exact .inl a
    · exact .inr ⟨y, (hq (by omega)).trans hy, a⟩
theorem sf_val_k {lo : List (Option Value)} {st : List Value} {r : (Nat × Nat) × ab_H} {k : Nat} : sf_val (lo, st, r) (3 * k) = sf_iv st.reverse[k]? := by
  unfold sf_val
  rw [decide_eq_true (show 3 * k % 3 = 0 by omega), show 3 * k / 3 = k by omega]
  rfl
theorem sf_val_l {lo lo' : List (Option Value)} {st st' : List Value} {u u' : Nat × Nat} {hp : ab_H} {p : Nat} (h : p % 3 = 2) (h1 : 1000 ≤ p / 3) : sf_val (lo, st, u, hp) p = sf_val (lo', st', u', hp) p := by
  unfold sf_val
  rw [decide_eq_false (show ¬ p % 3 = 0 by omega), decide_eq_false (show ¬ p % 3 = 1 by omega)]
  show sf_lc lo hp (p / 3) = sf_lc lo' hp (p / 3)
  unfold sf_lc
  rw [decide_eq_false (show ¬ p / 3 < 1000 by omega)]
  rfl
/-- a value of the kind j may be given where k is asked -/
def sf_jl (j k : sf_J) : Bool := (decide (k.1 = 0) && decide (j.1 = 0)) || (decide (k.1 = 1) && decide (j.1 = 1) && decide (j.2.1 = k.2.1) && (decide (j.2.2 ≠ 1) || decide (k.2.2 = 1))) || (decide (k.1 = 2) && decide (j.1 = 2)) || (decide (k.1 = 3) && decide (j.1 = 3) && decide (j.2.1 = k.2.1))
theorem sf_jl_ok {t : Nat → Nat} {n : Nat} {j k : sf_J} {v : Option Value} (h : sf_jl j k = true) (hj : sf_j t n j v) : sf_j t n k v := by
  unfold sf_jl at h
  simp only [Bool.or_eq_true, Bool.and_eq_true, decide_eq_true_eq] at h
  rcases h with ((h | h) | h) | h
  · refine ⟨fun _ => hj.1 h.2, fun e => ?_, fun e => ?_, fun e => ?_, fun e => ?_⟩ <;> exact absurd (h.1.symm.trans e) (by decide)
  · refine ⟨fun e => ?_, fun _ => ?_, fun e => ?_, fun e => ?_, fun e => ?_⟩
    · exact absurd (h.1.1.1.symm.trans e) (by decide)
    · rcases hj.2.1 h.1.1.2 with ⟨a, hx, h1, h2⟩ | ⟨h1, hx⟩
      · exact .inl ⟨a, hx, h1, h2.trans h.1.2⟩
      · exact .inr ⟨h.2.resolve_left (fun e => e h1), hx⟩
    · exact absurd (h.1.1.1.symm.trans e) (by decide)
    · exact absurd (h.1.1.1.symm.trans e) (by decide)
    · exact absurd (h.1.1.1.symm.trans e) (by decide)
  · refine ⟨fun e => ?_, fun e => ?_, fun _ => hj.2.2.1 h.2, fun e => ?_, fun e => ?_⟩ <;> exact absurd (h.1.symm.trans e) (by decide)
  · refine ⟨fun e => ?_, fun e => ?_, fun e => ?_, fun _ => ?_, fun e => ?_⟩
    · exact absurd (h.1.1.symm.trans e) (by decide)
    · exact absurd (h.1.1.symm.trans e) (by decide)
    · exact absurd (h.1.1.symm.trans e) (by decide)
    · rw [← h.2]
      exact hj.2.2.2.1 h.1.2
    · exact absurd (h.1.1.symm.trans e) (by decide)
def sf_jls : List sf_J → List sf_J → Bool
  | [], [] => true
  | j :: js, k :: ks => sf_jl j k && sf_jls js ks
  | _, _ => false
theorem sf_jls_ok {t : Nat → Nat} {n : Nat} : ∀ {js ks : List sf_J} {as : List Value}, sf_jls js ks = true → as.length = js.length → (∀ (i : Nat) (j : sf_J), js[i]? = some j → sf_j t n j as[i]?) → as.length = ks.length ∧ ∀ (i : Nat) (j : sf_J), ks[i]? = some j → sf_j t n j as[i]?
  | [], [], as, _, hl, h => ⟨hl, h⟩
  | [], k :: ks, as, h, _, _ => by cases h
  | j :: js, [], as, h, _, _ => by cases h
  | j :: js, k :: ks, as, h, hl, hj => by
    rw [sf_jls, Bool.and_eq_true] at h
    cases as with
    | nil => cases hl
    | cons a as =>
      obtain ⟨i1, i2⟩ := sf_jls_ok (js := js) (ks := ks) (as := as) h.2 (Nat.succ.inj hl) (fun i j' e => hj (i + 1) j' e)
      refine ⟨congrArg (· + 1) i1, fun i j' e => ?_⟩
      match i, e with
      | 0, e =>
        cases e
        exact sf_jl_ok h.1 (hj 0 j rfl)
      | i + 1, e => exact i2 i j' e
/-- the places of a contract's entry, over n values that lie below -/
def sf_sh (n : Nat) (f : sf_F) : sf_F := (f.1, cond (decide (f.2.1 % 3 = 0)) (f.2.1 + 3 * n) f.2.1, cond (decide (f.2.2.1 % 3 = 0)) (f.2.2.1 + 3 * n) f.2.2.1, f.2.2.2)
/-- only values given and the heap are named -/
def sf_fo (p : Nat) : Bool := decide (p % 3 = 0) || (decide (p % 3 = 2) && decide (1000 ≤ p / 3))
theorem sf_v0_at {lo : List (Option Value)} {as st : List Value} {u : Nat × Nat} {hp : ab_H} {n p : Nat} (hl : st.length = n) (hp' : sf_fo p = true) : sf_v0 as hp p = sf_val (lo, as.reverse ++ st, u, hp) (cond (decide (p % 3 = 0)) (p + 3 * n) p) := by
  unfold sf_fo at hp'
  rw [Bool.or_eq_true, Bool.and_eq_true, decide_eq_true_eq, decide_eq_true_eq, decide_eq_true_eq] at hp'
  unfold sf_v0
  rcases hp' with h | h
  · rw [decide_eq_true h]
    show sf_val ([], as.reverse, (0, 0), hp) p = sf_val (lo, as.reverse ++ st, u, hp) (p + 3 * n)
    obtain ⟨k, rfl⟩ : ∃ k, p = 3 * k := ⟨p / 3, by omega⟩
    rw [show 3 * k + 3 * n = 3 * (n + k) by omega, sf_val_k, sf_val_k, List.reverse_append, List.getElem?_append_right (by rw [List.length_reverse, hl]; exact Nat.le_add_right _ _), List.length_reverse, hl, Nat.add_sub_cancel_left, List.reverse_reverse]
  · rw [decide_eq_false (show ¬ p % 3 = 0 by omega)]
    exact sf_val_l h.1 h.2
/-- where a place of a contract's exit is found by the caller -/
def sf_or (F : List sf_F) (n : Nat) (b : Nat → Bool) (p : Nat) : Option Nat :=
  cond (decide (p % 3 = 2) && decide (1000 ≤ p / 3)) (some p) (cond (decide (p = 0)) (some (3 * n))
    (cond (decide (p % 3 = 0)) ((F.find? (fun f => decide (f.1 = 2) && decide (f.2.1 = 3 * (n + (p / 3 - 1))) && decide (f.2.2.2.1 = 1) && decide (f.2.2.2.2.1 = 0) && !b f.2.2.1)).map (fun f => f.2.2.1)) none))
def sf_po (F : List sf_F) (n : Nat) (b : Nat → Bool) (P : List sf_F) : List sf_F := P.filterMap (fun f => match sf_or F n b f.2.1 with
  | some p => cond (decide (f.1 = 1)) (some (1, p, 0, f.2.2.2)) (match sf_or F n b f.2.2.1 with
    | some q => some (f.1, p, q, f.2.2.2)
    | none => none)
  | none => none)
/-- a condition on a value that was given, carried to the answer -/
def sf_pc (F : List sf_F) (n : Nat) (b : Nat → Bool) (P : List sf_F) : List sf_F := P.flatMap (fun f => cond (decide (f.1 = 3) && decide (f.2.1 = 0) && decide (f.2.2.1 % 3 = 0) && decide (f.2.2.1 ≠ 0))
  (F.filterMap (fun g => cond (decide (g.1 = 3) && decide (g.2.1 = 3 * (n + (f.2.2.1 / 3 - 1))) && (decide (g.2.2.2.2.2 < f.2.2.2.1) || decide (f.2.2.2.2.1 < g.2.2.2.2.2)) && !b g.2.2.1) (some (3, 3 * n, g.2.2.1, g.2.2.2.1, g.2.2.2.2.1, f.2.2.2.2.2)) none)) [])
section PO
variable {F P : List sf_F} {n : Nat} {b : Nat → Bool} {v v1 w : Nat → Option Int}
theorem sf_or_ok (hF : sf_S v F) (hb : ∀ q, b q = false → w q = v q) (h0 : w (3 * n) = v1 0) (hk : ∀ k, v1 (3 * (k + 1)) = v (3 * (n + k))) (hh : ∀ p, p % 3 = 2 → 1000 ≤ p / 3 → w p = v1 p) {p p' : Nat} (h : sf_or F n b p = some p') : w p' = v1 p := by
  unfold sf_or at h
  cases c1 : (decide (p % 3 = 2) && decide (1000 ≤ p / 3)) with
  | true =>
    rw [c1] at h
    rw [Bool.and_eq_true, decide_eq_true_eq, decide_eq_true_eq] at c1
    obtain rfl := Option.some.inj h
    exact hh p c1.1 c1.2
  | false =>
    rw [c1] at h
    by_cases c2 : p = 0
    · rw [decide_eq_true c2] at h
      obtain rfl := Option.some.inj h
      rw [c2]
      exact h0
    · rw [decide_eq_false c2] at h
      by_cases c3 : p % 3 = 0
      · rw [decide_eq_true c3] at h
        replace h : (F.find? (fun f => decide (f.1 = 2) && decide (f.2.1 = 3 * (n + (p / 3 - 1))) && decide (f.2.2.2.1 = 1) && decide (f.2.2.2.2.1 = 0) && !b f.2.2.1)).map (fun f => f.2.2.1) = some p' := h
        obtain ⟨f, hf, rfl⟩ := Option.map_eq_some_iff.mp h
        have hm := List.mem_of_find?_eq_some hf
        have hc := List.find?_some hf
        simp only [Bool.and_eq_true, decide_eq_true_eq, Bool.not_eq_true'] at hc
        obtain ⟨⟨⟨⟨e1, e2⟩, e3⟩, e4⟩, e5⟩ := hc
        obtain ⟨x, y, hx, hy, e⟩ := (hF f hm).2.1 e1
        have hk' := hk (p / 3 - 1)
        rw [show 3 * (p / 3 - 1 + 1) = p by omega] at hk'
        rw [hb _ e5, hy, hk', ← e2, hx, e, e3, e4]
        congr 1
        omega
      · rw [decide_eq_false c3] at h
        cases h
theorem sf_po_ok (hF : sf_S v F) (hb : ∀ q, b q = false → w q = v q) (h0 : w (3 * n) = v1 0) (hk : ∀ k, v1 (3 * (k + 1)) = v (3 * (n + k))) (hh : ∀ p, p % 3 = 2 → 1000 ≤ p / 3 → w p = v1 p) (hP : sf_S v1 P) : sf_S w (sf_po F n b P) := by
  intro f hf
  obtain ⟨g, hg, e⟩ := List.mem_filterMap.mp hf
  split at e
  · rename_i p hp
    have hp' := sf_or_ok hF hb h0 hk hh hp
    by_cases c : g.1 = 1
    · rw [decide_eq_true c] at e
      obtain rfl := Option.some.inj e
      have := hP g hg
      obtain ⟨g1, g2, g3, g4⟩ := g
      have c' : g1 = 1 := c
      subst c'
      exact sf_s_map hp' (fun e => absurd rfl e) this
    · rw [decide_eq_false c] at e
      dsimp only [cond] at e
      split at e
      · rename_i q hq
        obtain rfl := Option.some.inj e
        exact sf_s_map hp' (fun _ => sf_or_ok hF hb h0 hk hh hq) (hP g hg)
      · cases e
  · cases e
theorem sf_pc_ok (hF : sf_S v F) (hb : ∀ q, b q = false → w q = v q) (h0 : w (3 * n) = v1 0) (hk : ∀ k, v1 (3 * (k + 1)) = v (3 * (n + k))) (hP : sf_S v1 P) : sf_S w (sf_pc F n b P) := by
  intro f hf
  obtain ⟨g, hg, hf⟩ := List.mem_flatMap.mp hf
  cases c : (decide (g.1 = 3) && decide (g.2.1 = 0) && decide (g.2.2.1 % 3 = 0) && decide (g.2.2.1 ≠ 0)) with
  | false =>
    rw [c] at hf
    exact absurd hf List.not_mem_nil
  | true =>
    rw [c] at hf
    simp only [Bool.and_eq_true, decide_eq_true_eq] at c
    obtain ⟨⟨⟨c1, c2⟩, c3⟩, c4⟩ := c
    have e9 : 3 * (g.2.2.1 / 3 - 1 + 1) = g.2.2.1 := by omega
    obtain ⟨h, hh, e⟩ := List.mem_filterMap.mp hf
    cases ch : (decide (h.1 = 3) && decide (h.2.1 = 3 * (n + (g.2.2.1 / 3 - 1))) && (decide (h.2.2.2.2.2 < g.2.2.2.1) || decide (g.2.2.2.2.1 < h.2.2.2.2.2)) && !b h.2.2.1) with
    | false =>
      rw [ch] at e
      cases e
    | true =>
      rw [ch] at e
      obtain rfl := Option.some.inj e
      simp only [Bool.and_eq_true, Bool.or_eq_true, decide_eq_true_eq, Bool.not_eq_true'] at ch
      obtain ⟨⟨⟨e1, e2⟩, e3⟩, e4⟩ := ch
      obtain ⟨x, hx, hd⟩ := (hP g hg).2.2 c1
      rw [c2] at hx
      refine sf_s3 (h0.trans hx) ?_
      rcases hd with hd | ⟨y, hy, y1, y2⟩
      · exact .inl hd
      · right
        obtain ⟨z, hz, hw⟩ := (hF h hh).2.2 e1
        have hk' := hk (g.2.2.1 / 3 - 1)
        rw [e9, hy, ← e2, hz] at hk'
        have hyz : y = z := Option.some.inj hk'
        rcases hw with hw | ⟨q, hq, q1, q2⟩
        · omega
        · exact ⟨q, (hb _ e4).trans hq, q1, q2⟩
end PO
