/-! ===== FACTS: what is known of the whole numbers of a state ===== -/
/-- (1, p, _, lo, hi, _): p's number lies in lo .. hi; (2, p, q, a, b, _): it is a times q's and b; (3, p, q, lo, hi, c): it is c, or q's lies in lo .. hi -/
abbrev sf_F : Type := Nat × Nat × Nat × Int × Int × Int
def sf_s (v : Nat → Option Int) (f : sf_F) : Prop :=
  (f.1 = 1 → ∃ x, v f.2.1 = some x ∧ f.2.2.2.1 ≤ x ∧ x ≤ f.2.2.2.2.1) ∧
  (f.1 = 2 → ∃ x y, v f.2.1 = some x ∧ v f.2.2.1 = some y ∧ x = f.2.2.2.1 * y + f.2.2.2.2.1) ∧
  (f.1 = 3 → ∃ x, v f.2.1 = some x ∧ (x = f.2.2.2.2.2 ∨ ∃ y, v f.2.2.1 = some y ∧ f.2.2.2.1 ≤ y ∧ y ≤ f.2.2.2.2.1))
def sf_S (v : Nat → Option Int) (F : List sf_F) : Prop := ∀ f ∈ F, sf_s v f
/-- does a fact name a place of these -/
def sf_m (b : Nat → Bool) (f : sf_F) : Bool := b f.2.1 || (decide (f.1 ≠ 1) && b f.2.2.1)
theorem sf_s_same {v v' : Nat → Option Int} {b : Nat → Bool} (h : ∀ q, b q = false → v' q = v q) {f : sf_F} (hf : sf_m b f = false) (hs : sf_s v f) : sf_s v' f := by
  unfold sf_m at hf
  rw [Bool.or_eq_false_iff] at hf
  have hp := h _ hf.1
  refine ⟨fun e => ?_, fun e => ?_, fun e => ?_⟩
  · rw [hp]
    exact hs.1 e
  · have hq := h f.2.2.1 (by have := hf.2; rw [e] at this; simpa using this)
    rw [hp, hq]
    exact hs.2.1 e
  · have hq := h f.2.2.1 (by have := hf.2; rw [e] at this; simpa using this)
    rw [hp, hq]
    exact hs.2.2 e
/-- the facts that are left when these places change -/
def sf_k (b : Nat → Bool) (F : List sf_F) : List sf_F := F.filter (fun f => !sf_m b f)
theorem sf_k_ok {v v' : Nat → Option Int} {b : Nat → Bool} (h : ∀ q, b q = false → v' q = v q) {F : List sf_F} (hF : sf_S v F) : sf_S v' (sf_k b F) := by
  intro f hf
  obtain ⟨h1, h2⟩ := List.mem_filter.mp hf
  exact sf_s_same h (by simpa using h2) (hF f h1)
theorem sf_S_app {v : Nat → Option Int} {F G : List sf_F} (h1 : sf_S v F) (h2 : sf_S v G) : sf_S v (F ++ G) := by
  intro f hf
  rcases List.mem_append.mp hf with h | h
  · exact h1 f h
  · exact h2 f h
theorem sf_S_cons {v : Nat → Option Int} {f : sf_F} {G : List sf_F} (h1 : sf_s v f) (h2 : sf_S v G) : sf_S v (f :: G) := by
  intro g hg
  rcases List.mem_cons.mp hg with h | h
  · rw [h]; exact h1
  · exact h2 g h
theorem sf_S_nil {v : Nat → Option Int} : sf_S v [] := fun _ h => absurd h List.not_mem_nil
theorem sf_s1 {v : Nat → Option Int} {p : Nat} {x lo hi : Int} (h : v p = some x) (h1 : lo ≤ x) (h2 : x ≤ hi) : sf_s v (1, p, 0, lo, hi, 0) :=
  ⟨fun _ => ⟨x, h, h1, h2⟩, fun e => absurd e (by show (1 : Nat) ≠ 2; decide), fun e => absurd e (by show (1 : Nat) ≠ 3; decide)⟩
theorem sf_s2 {v : Nat → Option Int} {p q : Nat} {x y a b : Int} (h : v p = some x) (h1 : v q = some y) (h2 : x = a * y + b) : sf_s v (2, p, q, a, b, 0) :=
  ⟨fun e => absurd e (by show (2 : Nat) ≠ 1; decide), fun _ => ⟨x, y, h, h1, h2⟩, fun e => absurd e (by show (2 : Nat) ≠ 3; decide)⟩
theorem sf_s3 {v : Nat → Option Int} {p q : Nat} {x lo hi c : Int} (h : v p = some x) (h1 : x = c ∨ ∃ y, v q = some y ∧ lo ≤ y ∧ y ≤ hi) : sf_s v (3, p, q, lo, hi, c) :=
  ⟨fun e => absurd e (by show (3 : Nat) ≠ 1; decide), fun e => absurd e (by show (3 : Nat) ≠ 2; decide), fun _ => ⟨x, h, h1⟩⟩
/-- the range of a place by the facts of kind 1 -/
def sf_i1 : List sf_F → Nat → Int × Int
  | [], _ => (-2147483648, 2147483647)
  | f :: F, p => cond (decide (f.1 = 1) && decide (f.2.1 = p)) (max f.2.2.2.1 (sf_i1 F p).1, min f.2.2.2.2.1 (sf_i1 F p).2) (sf_i1 F p)
theorem sf_i1_ok {v : Nat → Option Int} {p : Nat} {x : Int} (hx : v p = some x) (hr : -2147483648 ≤ x ∧ x ≤ 2147483647) : ∀ {F : List sf_F}, sf_S v F → (sf_i1 F p).1 ≤ x ∧ x ≤ (sf_i1 F p).2
  | [], _ => hr
  | f :: F, h => by
    have ih := sf_i1_ok hx hr (F := F) (fun g hg => h g (List.mem_cons_of_mem _ hg))
    rw [sf_i1]
    cases hc : (decide (f.1 = 1) && decide (f.2.1 = p)) with
    | false => exact ih
    | true =>
      rw [Bool.and_eq_true, decide_eq_true_eq, decide_eq_true_eq] at hc
      obtain ⟨y, h1, h2, h3⟩ := (h f List.mem_cons_self).1 hc.1
      rw [hc.2, hx] at h1
      cases h1
      exact ⟨Int.max_le.mpr ⟨h2, ih.1⟩, Int.le_min.mpr ⟨h3, ih.2⟩⟩
/-- the range of a place by the facts of the kinds 1 and 2 -/
def sf_i2 (G : List sf_F) : List sf_F → Nat → Int × Int
  | [], p => sf_i1 G p
  | f :: F, p => cond (decide (f.1 = 2) && decide (f.2.1 = p) && decide (0 ≤ f.2.2.2.1)) (max (f.2.2.2.1 * (sf_i1 G f.2.2.1).1 + f.2.2.2.2.1) (sf_i2 G F p).1, min (f.2.2.2.1 * (sf_i1 G f.2.2.1).2 + f.2.2.2.2.1) (sf_i2 G F p).2) (sf_i2 G F p)
def sf_i (F : List sf_F) (p : Nat) : Int × Int := sf_i2 F F p
theorem sf_i2_ok {v : Nat → Option Int} {p : Nat} {x : Int} (hv : ∀ q y, v q = some y → -2147483648 ≤ y ∧ y ≤ 2147483647) (hx : v p = some x) {G : List sf_F} (hG : sf_S v G) : ∀ {F : List sf_F}, sf_S v F → (sf_i2 G F p).1 ≤ x ∧ x ≤ (sf_i2 G F p).2
  | [], _ => sf_i1_ok hx (hv p x hx) hG
  | f :: F, h => by
    have ih := sf_i2_ok hv hx hG (F := F) (fun g hg => h g (List.mem_cons_of_mem _ hg))
    rw [sf_i2]
    cases hc : (decide (f.1 = 2) && decide (f.2.1 = p) && decide (0 ≤ f.2.2.2.1)) with
    | false => exact ih
    | true =>
      rw [Bool.and_eq_true, Bool.and_eq_true, decide_eq_true_eq, decide_eq_true_eq, decide_eq_true_eq] at hc
      obtain ⟨y, z, h1, h2, h3⟩ := (h f List.mem_cons_self).2.1 hc.1.1
      rw [hc.1.2, hx] at h1
      cases h1
      obtain ⟨g1, g2⟩ := sf_i1_ok h2 (hv _ _ h2) hG
      have m1 := Int.mul_le_mul_of_nonneg_left g1 hc.2
      have m2 := Int.mul_le_mul_of_nonneg_left g2 hc.2
      refine ⟨Int.max_le.mpr ⟨?_, ih.1⟩, Int.le_min.mpr ⟨?_, ih.2⟩⟩
      · rw [h3]
        exact Int.add_le_add_right m1 _
      · rw [h3]
        exact Int.add_le_add_right m2 _
theorem sf_i_ok {v : Nat → Option Int} {p : Nat} {x : Int} (hv : ∀ q y, v q = some y → -2147483648 ≤ y ∧ y ≤ 2147483647) {F : List sf_F} (hF : sf_S v F) (hx : v p = some x) : (sf_i F p).1 ≤ x ∧ x ≤ (sf_i F p).2 := sf_i2_ok hv hx hF hF
/-- is a place's number named at all -/
def sf_n (F : List sf_F) (p : Nat) : Bool := F.any (fun f => (decide (f.1 = 1) || decide (f.1 = 2) || decide (f.1 = 3)) && decide (f.2.1 = p) || decide (f.1 = 2) && decide (f.2.2.1 = p))
theorem sf_n_ok {v : Nat → Option Int} {p : Nat} {F : List sf_F} (hF : sf_S v F) (h0 : sf_n F p = true) : ∃ x, v p = some x := by
  obtain ⟨f, hf, h⟩ := List.any_eq_true.mp h0
  clear h0
  have hs := hF f hf
  rw [Bool.or_eq_true, Bool.and_eq_true, Bool.and_eq_true, Bool.or_eq_true, Bool.or_eq_true] at h
  simp only [decide_eq_true_eq] at h
  rcases h with ⟨(h | h) | h, rfl⟩ | ⟨h, rfl⟩
  · obtain ⟨x, h1, -⟩ := hs.1 h
    exact ⟨x, h1⟩
  · obtain ⟨x, y, h1, -⟩ := hs.2.1 h
    exact ⟨x, h1⟩
  · obtain ⟨x, h1, -⟩ := hs.2.2 h
    exact ⟨x, h1⟩
  · obtain ⟨x, y, -, h1, -⟩ := hs.2.1 h
    exact ⟨y, h1⟩
/-- does a fact come out of others -/
def sf_d (F : List sf_F) (f : sf_F) : Bool :=
  F.any (fun g => decide (g = f)) ||
  (decide (f.1 = 1) && sf_n F f.2.1 && decide (f.2.2.2.1 ≤ (sf_i F f.2.1).1) && decide ((sf_i F f.2.1).2 ≤ f.2.2.2.2.1)) ||
  (decide (f.1 = 3) && sf_n F f.2.1 && (
    (decide ((sf_i F f.2.1).1 = f.2.2.2.2.2) && decide ((sf_i F f.2.1).2 = f.2.2.2.2.2)) ||
    (sf_n F f.2.2.1 && decide (f.2.2.2.1 ≤ (sf_i F f.2.2.1).1) && decide ((sf_i F f.2.2.1).2 ≤ f.2.2.2.2.1)) ||
    F.any (fun g => decide (g.1 = 3) && decide (g.2.1 = f.2.1) && decide (g.2.2.1 = f.2.2.1) && decide (g.2.2.2.2.2 = f.2.2.2.2.2) && decide (f.2.2.2.1 ≤ g.2.2.2.1) && decide (g.2.2.2.2.1 ≤ f.2.2.2.2.1))))
theorem sf_d_ok {v : Nat → Option Int} (hv : ∀ q y, v q = some y → -2147483648 ≤ y ∧ y ≤ 2147483647) {F : List sf_F} (hF : sf_S v F) {f : sf_F} (h : sf_d F f = true) : sf_s v f := by
  unfold sf_d at h
  rw [Bool.or_eq_true, Bool.or_eq_true] at h
  rcases h with (h | h) | h
  · obtain ⟨g, hg, e⟩ := List.any_eq_true.mp h
    rw [decide_eq_true_eq] at e
    exact e ▸ hF g hg
  · rw [Bool.and_eq_true, Bool.and_eq_true, Bool.and_eq_true] at h
    simp only [decide_eq_true_eq] at h
    obtain ⟨⟨⟨h0, h1⟩, h2⟩, h3⟩ := h
    obtain ⟨x, hx⟩ := sf_n_ok hF h1
    have hi := sf_i_ok hv hF hx
    exact ⟨fun _ => ⟨x, hx, Int.le_trans h2 hi.1, Int.le_trans hi.2 h3⟩, fun e => absurd (h0.symm.trans e) (by decide), fun e => absurd (h0.symm.trans e) (by decide)⟩
  · rw [Bool.and_eq_true, Bool.and_eq_true] at h
    obtain ⟨⟨h0, h1⟩, h2⟩ := h
    rw [decide_eq_true_eq] at h0
    obtain ⟨x, hx⟩ := sf_n_ok hF h1
    have hi := sf_i_ok hv hF hx
    refine ⟨fun e => absurd (h0.symm.trans e) (by decide), fun e => absurd (h0.symm.trans e) (by decide), fun _ => ⟨x, hx, ?_⟩⟩
    rw [Bool.or_eq_true, Bool.or_eq_true] at h2
    rcases h2 with (h2 | h2) | h2
    · rw [Bool.and_eq_true, decide_eq_true_eq, decide_eq_true_eq] at h2
      left
      rw [h2.1, h2.2] at hi
      exact Int.le_antisymm hi.2 hi.1
    · rw [Bool.and_eq_true, Bool.and_eq_true, decide_eq_true_eq, decide_eq_true_eq] at h2
      obtain ⟨y, hy⟩ := sf_n_ok hF h2.1.1
      have hj := sf_i_ok hv hF hy
      exact .inr ⟨y, hy, Int.le_trans h2.1.2 hj.1, Int.le_trans hj.2 h2.2⟩
    · obtain ⟨g, hg, e⟩ := List.any_eq_true.mp h2
      simp only [Bool.and_eq_true, decide_eq_true_eq] at e
      obtain ⟨⟨⟨⟨⟨e1, e2⟩, e3⟩, e4⟩, e5⟩, e6⟩ := e
      obtain ⟨y, hy, hz⟩ := (hF g hg).2.2 e1
      rw [e2, hx] at hy
      cases hy
      rcases hz with hz | ⟨z, hz, z1, z2⟩
      · exact .inl (hz.trans e4)
      · exact .inr ⟨z, by rw [← e3]; exact hz, Int.le_trans e5 z1, Int.le_trans z2 e6⟩
def sf_dd (F G : List sf_F) : Bool := G.all (fun f => sf_d F f)
theorem sf_dd_ok {v : Nat → Option Int} (hv : ∀ q y, v q = some y → -2147483648 ≤ y ∧ y ≤ 2147483647) {F G : List sf_F} (hF : sf_S v F) (h : sf_dd F G = true) : sf_S v G :=
  fun f hf => sf_d_ok hv hF (List.all_eq_true.mp h f hf)
