/-! ===== steps over what is known: the stack ===== -/
def sf_inW (W : List (Nat × Nat × Nat)) (g i : Nat) : Bool := W.any (fun w => decide (w.1 = g) && decide (w.2.1 ≤ i) && decide (i ≤ w.2.2))
/-- may the way that the reference has left to read grow: marked by 999 -/
def sf_mk (W : List (Nat × Nat × Nat)) : Bool := W.any (fun w => decide (w.1 = 999))
/-- the way that the reference has left to read -/
def sf_psi (hp : ab_H) : Int := match sf_rd hp 69 4, sf_rd hp 69 11 with
  | some p, some k => 2 * (940 - p) + cond (decide (1 ≤ k) && decide (k ≤ 3)) 1 0
  | _, _ => 0
/-- what has stayed: the sorts, the numbers outside W, the cells of sorts that W doesn't name -/
def sf_fr (W : List (Nat × Nat × Nat)) (t : Nat → Nat) (hp : ab_H) (t' : Nat → Nat) (hp' : ab_H) : Prop :=
  hp.1 ≤ hp'.1 ∧ (∀ a, a < hp.1 → t' a = t a) ∧ (∀ a, a < hp.1 → ∀ i, sf_inW W (t a) i = false → sf_rd hp' a i = sf_rd hp a i) ∧ (∀ a, a < hp.1 → W.all (fun w => decide (w.1 ≠ t a)) = true → hp'.2 a = hp.2 a) ∧ (sf_mk W = false → sf_psi hp' ≤ sf_psi hp)
theorem sf_fr_rf {W : List (Nat × Nat × Nat)} {t : Nat → Nat} {hp : ab_H} : sf_fr W t hp t hp := ⟨Nat.le_refl _, fun _ _ => rfl, fun _ _ _ _ => rfl, fun _ _ _ => rfl, fun _ => Int.le_refl _⟩
theorem sf_fr_tr {W : List (Nat × Nat × Nat)} {t t' t'' : Nat → Nat} {hp hp' hp'' : ab_H} (h : sf_fr W t hp t' hp') (h' : sf_fr W t' hp' t'' hp'') : sf_fr W t hp t'' hp'' := by
  refine ⟨Nat.le_trans h.1 h'.1, fun a ha => (h'.2.1 a (Nat.lt_of_lt_of_le ha h.1)).trans (h.2.1 a ha), fun a ha i hi => ?_, fun a ha hw => ?_, fun hm => Int.le_trans (h'.2.2.2.2 hm) (h.2.2.2.2 hm)⟩
  · exact (h'.2.2.1 a (Nat.lt_of_lt_of_le ha h.1) i (by rw [h.2.1 a ha]; exact hi)).trans (h.2.2.1 a ha i hi)
  · exact (h'.2.2.2.1 a (Nat.lt_of_lt_of_le ha h.1) (by rw [h.2.1 a ha]; exact hw)).trans (h.2.2.2.1 a ha hw)
def sf_nx (W : List (Nat × Nat × Nat)) (f : ab_S → Option ab_S) (d d' : sf_D) : Prop := ∀ (t : Nat → Nat) (s : ab_S), sf_g t d s → ∃ (s' : ab_S) (t' : Nat → Nat), f s = some s' ∧ sf_g t' d' s' ∧ sf_fr W t s.2.2.2 t' s'.2.2.2
theorem sf_pop1 {t : Nat → Nat} {d1 jt : List sf_J} {j : sf_J} {F : List sf_F} {U V : Nat} {lo : List (Option Value)} {stk : List Value} {r : (Nat × Nat) × ab_H} (G : sf_g t (d1, j :: jt, F, U, V) (lo, stk, r)) : ∃ v st, stk = v :: st ∧ st.length = jt.length ∧ sf_j t r.2.1 j (some v) := by
  have h1 : stk.length = (j :: jt).length := G.2.2.1.1
  cases stk with
  | nil => cases h1
  | cons v st => exact ⟨v, st, rfl, Nat.succ.inj h1, G.2.2.1.2 0 j rfl⟩
theorem sf_pop2 {t : Nat → Nat} {d1 jt : List sf_J} {j k : sf_J} {F : List sf_F} {U V : Nat} {lo : List (Option Value)} {stk : List Value} {r : (Nat × Nat) × ab_H} (G : sf_g t (d1, j :: k :: jt, F, U, V) (lo, stk, r)) : ∃ v w st, stk = v :: w :: st ∧ st.length = jt.length ∧ sf_j t r.2.1 j (some v) ∧ sf_j t r.2.1 k (some w) := by
  obtain ⟨v, st, rfl, hl, hj⟩ := sf_pop1 G
  cases st with
  | nil => cases hl
  | cons w st => exact ⟨v, w, st, rfl, Nat.succ.inj hl, hj, G.2.2.1.2 1 k rfl⟩
theorem sf_pop3 {t : Nat → Nat} {d1 jt : List sf_J} {j k m : sf_J} {F : List sf_F} {U V : Nat} {lo : List (Option Value)} {stk : List Value} {r : (Nat × Nat) × ab_H} (G : sf_g t (d1, j :: k :: m :: jt, F, U, V) (lo, stk, r)) : ∃ v w z st, stk = v :: w :: z :: st ∧ st.length = jt.length ∧ sf_j t r.2.1 j (some v) ∧ sf_j t r.2.1 k (some w) ∧ sf_j t r.2.1 m (some z) := by
  obtain ⟨v, w, st, rfl, hl, hj, hk⟩ := sf_pop2 G
  cases st with
  | nil => cases hl
  | cons z st => exact ⟨v, w, z, st, rfl, Nat.succ.inj hl, hj, hk, G.2.2.1.2 2 m rfl⟩
theorem sf_j0 {t : Nat → Nat} {n : Nat} {x : Int32} {a b : Nat} : sf_j t n (0, a, b) (some (.int x)) :=
  ⟨fun _ => ⟨x, rfl⟩, fun e => absurd e (by show (0 : Nat) ≠ 1; decide), fun e => absurd e (by show (0 : Nat) ≠ 2; decide), fun e => absurd e (by show (0 : Nat) ≠ 3; decide), fun e => absurd e (by show (0 : Nat) ≠ 8; decide)⟩
theorem sf_j2 {t : Nat → Nat} {n : Nat} {x : Int64} {a b : Nat} : sf_j t n (2, a, b) (some (.long x)) :=
  ⟨fun e => absurd e (by show (2 : Nat) ≠ 0; decide), fun e => absurd e (by show (2 : Nat) ≠ 1; decide), fun _ => ⟨x, rfl⟩, fun e => absurd e (by show (2 : Nat) ≠ 3; decide), fun e => absurd e (by show (2 : Nat) ≠ 8; decide)⟩
theorem sf_j1 {t : Nat → Nat} {n a g b : Nat} (h : a < n) (ht : t a = g) : sf_j t n (1, g, b) (some (.ref a)) :=
  ⟨fun e => absurd e (by show (1 : Nat) ≠ 0; decide), fun _ => .inl ⟨a, rfl, h, ht⟩, fun e => absurd e (by show (1 : Nat) ≠ 2; decide), fun e => absurd e (by show (1 : Nat) ≠ 3; decide), fun e => absurd e (by show (1 : Nat) ≠ 8; decide)⟩
theorem sf_one {t : Nat → Nat} {n : Nat} {j : sf_J} {v : Value} (h : sf_j t n j (some v)) : ∀ (i : Nat) (j' : sf_J), ([j] : List sf_J)[i]? = some j' → sf_j t n j' ([v] : List Value)[i]? := by
  intro i j' hi
  match i, hi with
  | 0, hi =>
    cases hi
    exact h
  | i + 1, hi => cases hi
theorem sf_none {t : Nat → Nat} {n : Nat} : ∀ (i : Nat) (j' : sf_J), ([] : List sf_J)[i]? = some j' → sf_j t n j' ([] : List Value)[i]? := fun i j' hi => by cases hi
/-- v lies on the stack now; what is said of its number -/
def sf_pu (d : sf_D) (j : sf_J) (A : List sf_F) : sf_D := (d.1, j :: d.2.1, sf_k (sf_bS d.2.1.length) d.2.2.1 ++ A, d.2.2.2)
theorem sf_pu_ok {t : Nat → Nat} {d : sf_D} {s : ab_S} {v : Value} {j : sf_J} {A : List sf_F} (G : sf_g t d s) (hj : sf_j t s.2.2.2.1 j (some v)) (hA : sf_S (sf_val (s.1, v :: s.2.1, s.2.2)) A) : sf_g t (sf_pu d j A) (s.1, v :: s.2.1, s.2.2) := by
  obtain ⟨d1, jt, F, U, V⟩ := d
  obtain ⟨lo, st, u, hp⟩ := s
  have hl : st.length = jt.length := G.2.2.1.1
  have := sf_stk (d := (d1, [], [], 0, 0)) (xs := []) (ys := [v]) (js := []) (js' := [j]) (A := A) G rfl rfl (sf_one hj) hA
  rw [hl] at this
  exact this
/-- a place's number is as before where only something was put on the stack -/
theorem sf_val_pu {lo : List (Option Value)} {v : Value} {st : List Value} {r : (Nat × Nat) × ab_H} {p : Nat} (h : sf_bS st.length p = false) : sf_val (lo, v :: st, r) p = sf_val (lo, st, r) p := sf_val_stk (xs := []) (ys := [v]) h
def so_lit (x : Int32) (d : sf_D) : Option sf_D := some (sf_pu d (0, 0, 0) [(1, 3 * d.2.1.length, 0, x.toInt, x.toInt, 0)])
theorem so_lit_ok {W : List (Nat × Nat × Nat)} {x : Int32} {d d' : sf_D} (h : so_lit x d = some d') : sf_nx W (ab_lit (.int x)) d d' := by
  obtain rfl := Option.some.inj h
  intro t s G
  refine ⟨_, t, rfl, sf_pu_ok G sf_j0 (sf_S_cons (sf_s1 (x := x.toInt) ?_ (Int.le_refl _) (Int.le_refl _)) sf_S_nil), sf_fr_rf⟩
  rw [← G.2.2.1.1]
  exact sf_val_top
def so_llit (d : sf_D) : Option sf_D := some (sf_pu d (2, 0, 0) [])
theorem so_llit_ok {W : List (Nat × Nat × Nat)} {x : Int64} {d d' : sf_D} (h : so_llit d = some d') : sf_nx W (ab_lit (.long x)) d d' := by
  obtain rfl := Option.some.inj h
  intro t s G
  exact ⟨_, t, rfl, sf_pu_ok G sf_j2 sf_S_nil, sf_fr_rf⟩
theorem sf_j3 {t : Nat → Nat} {n i b : Nat} : sf_j t n (3, i, b) (some (.retAddr i)) :=
  ⟨fun e => absurd e (by show (3 : Nat) ≠ 0; decide), fun e => absurd e (by show (3 : Nat) ≠ 1; decide), fun e => absurd e (by show (3 : Nat) ≠ 2; decide), fun _ => rfl, fun e => absurd e (by show (3 : Nat) ≠ 8; decide)⟩
def so_ext (i : Nat) (d : sf_D) : Option sf_D := some (sf_pu d (3, i, 0) [])
theorem so_ext_ok {W : List (Nat × Nat × Nat)} {i : Nat} {d d' : sf_D} (h : so_ext i d = some d') : sf_nx W (ab_lit (.retAddr i)) d d' := by
  obtain rfl := Option.some.inj h
  intro t s G
  exact ⟨_, t, rfl, sf_pu_ok G sf_j3 sf_S_nil, sf_fr_rf⟩
theorem sf_loc {t : Nat → Nat} {d : sf_D} {s : ab_S} (G : sf_g t d s) {i : Nat} {j : sf_J} (h : d.1[i]? = some j) : sf_j t s.2.2.2.1 j (s.1[i]?).join ∧ ∃ w, s.1[i]? = some w := by
  refine ⟨G.2.1.2 i j h, ?_⟩
  have hi := (List.getElem?_eq_some_iff.mp h).1
  rw [← G.2.1.1] at hi
  exact ⟨s.1[i], List.getElem?_eq_getElem hi⟩
def so_iload (i : Nat) (d : sf_D) : Option sf_D := match d.1[i]? with
  | some (0, _, _) => some (sf_pu d (0, 0, 0) [(2, 3 * d.2.1.length, 3 * i + 1, 1, 0, 0)])
  | _ => none
theorem so_iload_ok {W : List (Nat × Nat × Nat)} {i : Nat} {d d' : sf_D} (h : so_iload i d = some d') : sf_nx W (ab_iload i) d d' := by
  unfold so_iload at h
  split at h
  · rename_i a b hi
    obtain rfl := Option.some.inj h
    intro t s G
    obtain ⟨hj, w, hw⟩ := sf_loc G hi
    obtain ⟨x, hx⟩ := hj.1 rfl
    rw [hw] at hx
    have hx' : w = some (.int x) := hx
    subst hx'
    refine ⟨(s.1, .int x :: s.2.1, s.2.2), t, by rw [ab_iload, hw], sf_pu_ok G sf_j0 (sf_S_cons (sf_s2 (x := x.toInt) (y := x.toInt) ?_ ?_ (by omega)) sf_S_nil), sf_fr_rf⟩
    · rw [← G.2.2.1.1]
      exact sf_val_top
    · rw [sf_val_pu (by unfold sf_bS; rw [show (3 * i + 1) % 3 = 1 by omega]; rfl)]
      unfold sf_val
      rw [show (3 * i + 1) % 3 = 1 by omega, show (3 * i + 1) / 3 = i by omega, hw]
      rfl
  · cases h
def so_aload (i : Nat) (d : sf_D) : Option sf_D := match d.1[i]? with
  | some (1, g, n) => some (sf_pu d (1, g, n) [])
  | some (3, g, n) => some (sf_pu d (3, g, n) [])
  | _ => none
theorem so_aload_ok {W : List (Nat × Nat × Nat)} {i : Nat} {d d' : sf_D} (h : so_aload i d = some d') : sf_nx W (ab_aload i) d d' := by
  unfold so_aload at h
  split at h
  · rename_i g n hi
    obtain rfl := Option.some.inj h
    intro t s G
    obtain ⟨hj, w, hw⟩ := sf_loc G hi
    have hj' := hj
    rw [hw] at hj'
    rcases hj.2.1 rfl with ⟨a, hx, -⟩ | ⟨-, hx⟩
    · rw [hw] at hx
      have hx' : w = some (.ref a) := hx
      subst hx'
      exact ⟨(s.1, .ref a :: s.2.1, s.2.2), t, by rw [ab_aload, hw], sf_pu_ok G hj' sf_S_nil, sf_fr_rf⟩
    · rw [hw] at hx
      have hx' : w = some .null := hx
      subst hx'
      exact ⟨(s.1, .null :: s.2.1, s.2.2), t, by rw [ab_aload, hw], sf_pu_ok G hj' sf_S_nil, sf_fr_rf⟩
  · rename_i g n hi
    obtain rfl := Option.some.inj h
    intro t s G
    obtain ⟨hj, w, hw⟩ := sf_loc G hi
    have hj' := hj
    rw [hw] at hj'
    have hx := hj.2.2.2.1 rfl
    rw [hw] at hx
    have hx' : w = some (.retAddr g) := hx
    subst hx'
    exact ⟨(s.1, .retAddr g :: s.2.1, s.2.2), t, by rw [ab_aload, hw], sf_pu_ok G hj' sf_S_nil, sf_fr_rf⟩
  · cases h
def so_lload (i : Nat) (d : sf_D) : Option sf_D := match d.1[i]? with
  | some (2, _, _) => some (sf_pu d (2, 0, 0) [])
  | _ => none
theorem so_lload_ok {W : List (Nat × Nat × Nat)} {i : Nat} {d d' : sf_D} (h : so_lload i d = some d') : sf_nx W (ab_lload i) d d' := by
  unfold so_lload at h
  split at h
  · rename_i a b hi
    obtain rfl := Option.some.inj h
    intro t s G
    obtain ⟨hj, w, hw⟩ := sf_loc G hi
    obtain ⟨x, hx⟩ := hj.2.2.1 rfl
    rw [hw] at hx
    have hx' : w = some (.long x) := hx
    subst hx'
    exact ⟨(s.1, .long x :: s.2.1, s.2.2), t, by rw [ab_lload, hw], sf_pu_ok G sf_j2 sf_S_nil, sf_fr_rf⟩
  · cases h
