/-- (1, p, _, lo, hi, _): p's number lies in lo .. hi; (2, p, q, a, b, _): it is a times q's and b; (3, p, q, lo, hi, c): it is c, or q's lies in lo .. hi -/
abbrev sf_F : Type := Nat × Nat × Nat × Int × Int × Int
def sf_s (v : Nat → Option Int) (f : sf_F) : Prop :=
  (f.1 = 1 → ∃ x, v f.2.1 = some x ∧ f.2.2.2.1 ≤ x ∧ x ≤ f.2.2.2.2.1) ∧
  (f.1 = 2 → ∃ x y, v f.2.1 = some x ∧ v f.2.2.1 = some y ∧ x = f.2.2.2.1 * y + f.2.2.2.2.1) ∧
  (f.1 = 3 → ∃ x, v f.2.1 = some x ∧ (x = f.2.2.2.2.2 ∨ ∃ y, v f.2.2.1 = some y ∧ f.2.2.2.1 ≤ y ∧ y ≤ f.2.2.2.2.1))
def sf_S (v : Nat → Option Int) (F : List sf_F) : Prop := ∀ f ∈ F, sf_s v f
theorem sf_S_cons {v : Nat → Option Int} {f : sf_F} {G : List sf_F} (h1 : sf_s v f) (h2 : sf_S v G) : sf_S v (f :: G) := by
  intro g hg
  rcases List.mem_cons.mp hg with h | h
  · rw [h]; exact h1
  · exact h2 g h
theorem sf_S_nil {v : Nat → Option Int} : sf_S v [] := fun _ h => absurd h List.not_mem_nil
theorem sf_s1 {v : Nat → Option Int} {p : Nat} {x lo hi : Int} (h : v p = some x) (h1 : lo ≤ x) (h2 : x ≤ hi) : sf_s v (1, p, 0, lo, hi, 0) :=
  ⟨fun _ => ⟨x, h, h1, h2⟩, fun e => absurd e (by show (1 : Nat) ≠ 2; decide), fun e => absurd e (by show (1 : Nat) ≠ 3; decide)⟩
theorem sf_s3 {v : Nat → Option Int} {p q : Nat} {x lo hi c : Int} (h : v p = some x) (h1 : x = c ∨ ∃ y, v q = some y ∧ lo ≤ y ∧ y ≤ hi) : sf_s v (3, p, q, lo, hi, c) :=
  ⟨fun e => absurd e (by show (3 : Nat) ≠ 1; decide), fun e => absurd e (by show (3 : Nat) ≠ 2; decide), fun _ => ⟨x, h, h1⟩⟩
/-- the number at a place of the heap: below 1000 the field of the object in local 0, else sort, one more, and place in it -/
def sf_lc (lo : List (Option Value)) (hp : ab_H) (l : Nat) : Option Int := cond (decide (l < 1000)) (match (lo[0]? : Option (Option Value)) with
    | some (some (.ref a)) => sf_rd hp a l
    | _ => none) (match sf_P (l / 1000 - 1) with
    | some a => sf_rd hp a (l % 1000)
    | none => none)
/-- the number at a place: 3 h the h-th value of the stack from below, 3 i + 1 local i, 3 l + 2 the heap -/
def sf_val (s : ab_S) (p : Nat) : Option Int := cond (decide (p % 3 = 0)) (sf_iv (s.2.1.reverse[p / 3]?)) (cond (decide (p % 3 = 1)) (sf_iv (s.1[p / 3]?).join) (sf_lc s.1 s.2.2.2 (p / 3)))
theorem sf_j0 {t : Nat → Nat} {n : Nat} {x : Int32} {a b : Nat} : sf_j t n (0, a, b) (some (.int x)) :=
  ⟨fun _ => ⟨x, rfl⟩, fun e => absurd e (by show (0 : Nat) ≠ 1; decide), fun e => absurd e (by show (0 : Nat) ≠ 2; decide), fun e => absurd e (by show (0 : Nat) ≠ 3; decide), fun e => absurd e (by show (0 : Nat) ≠ 8; decide)⟩
theorem sf_j1 {t : Nat → Nat} {n a g b : Nat} (h : a < n) (ht : t a = g) : sf_j t n (1, g, b) (some (.ref a)) :=
  ⟨fun e => absurd e (by show (1 : Nat) ≠ 0; decide), fun _ => .inl ⟨a, rfl, h, ht⟩, fun e => absurd e (by show (1 : Nat) ≠ 2; decide), fun e => absurd e (by show (1 : Nat) ≠ 3; decide), fun e => absurd e (by show (1 : Nat) ≠ 8; decide)⟩
theorem sf_rd_arr {hp : ab_H} {a kd len i : Nat} {f : Nat → Int32} (h : hp.2 a = .inl (kd, len, .inl f)) (hi : i < len) : sf_rd hp a i = some (f i).toInt := by
  unfold sf_rd
  rw [h]
  show cond (decide (i < len)) _ _ = _
  rw [decide_eq_true hi]
  rfl
def bv (hp : ab_H) (a n q : Nat) : Int := if q < n then ((sf_rd hp a q).getD 0) % 256 else 0
theorem tsg_ne (c : Int) : tsg c ≠ 3 ∧ tsg c ≠ 2 ∧ tsg c ≠ 0 := by
  unfold tsg
  split
  · next h =>
    unfold tsgp at h
    omega
  · exact ⟨by decide, by decide, by decide⟩
abbrev tvr (T : TT) (w : Int64) : Prop := (T.k = 3 → w.toInt = T.v) ∧ (T.k = 2 → w.toInt = c32 7 T.v)
def mv_l (as : List Value) : Nat := match as with
  | [_, _, .int x] => x.toInt.toNat
  | _ => 0
abbrev TKJ (hp : ab_H) (B : Nat → Int) (n lim j : Nat) : Prop := sf_rd hp 4 j = some (tok B n lim j).k ∧ sf_rd hp 5 j = some (tok B n lim j).pl ∧ ∃ w, sf_rl hp 6 j = some w ∧ tvr (tok B n lim j) w
abbrev TKS (hp : ab_H) (B : Nat → Int) (n lim m : Nat) : Prop := 1 ≤ m ∧ m ≤ 901 ∧ sf_rd hp 3 3 = some (m : Int) ∧ (∀ j, j < m → TKJ hp B n lim j) ∧ (∀ j, j + 1 < m → (tok B n lim j).k ≠ 0 ∧ (tok B n lim j).k ≠ 1) ∧ ((tok B n lim (m - 1)).k = 0 ∨ (tok B n lim (m - 1)).k = 1)
abbrev sf_Q : Type := List sf_J × List sf_F × Option sf_J × List sf_F × List (Nat × Nat × Nat)
def sf_an (t : Nat → Nat) (n : Nat) (j : Option sf_J) (r : Option Value) : Prop := (j = none → r = none) ∧ ∀ k, j = some k → ∃ v, r = some v ∧ sf_j t n k (some v)
def sf_v0 (as : List Value) (hp : ab_H) : Nat → Option Int := sf_val ([], as.reverse, (0, 0), hp)
def sf_v1 (r : Option Value) (as : List Value) (hp : ab_H) : Nat → Option Int := sf_val ([], ((r.getD .null) :: as).reverse, (0, 0), hp)
def sf_cE (K : sf_Q) (X : List Value → ab_H → Option ab_O) (E : List Value → ab_H → Option Value → ab_H → Prop) : Prop := ∀ (t : Nat → Nat) (hp : ab_H) (as : List Value), sf_h t hp → as.length = K.1.length → (∀ (i : Nat) (j : sf_J), K.1[i]? = some j → sf_j t hp.1 j as[i]?) → sf_S (sf_v0 as hp) K.2.1 →
  ∃ (r : Option Value) (hp' : ab_H) (t' : Nat → Nat), X as hp = some (r, hp') ∧ sf_h t' hp' ∧ sf_fr K.2.2.2.2 t hp t' hp' ∧ sf_an t' hp'.1 K.2.2.1 r ∧ sf_S (sf_v1 r as hp') K.2.2.2.1 ∧ E as hp r hp'
def kq_X8_moveInto_v : sf_Q := ([(1, 8, 0), (1, 9, 0), (0, 0, 0)], [(1, 6, 0, 0, 900, 0)], none, [], [(8, 1, 2), (9, 3, 3), (9, 4, 4), (9, 9, 9), (124, 0, 900), (125, 0, 900), (126, 0, 0)])
def ke_X8_moveInto_v : List Value → ab_H → Option Value → ab_H → Prop := fun as hp _ hp' => ∀ n : Int, sf_rd hp 1 1 = some n → ∃ m : Nat, TKS hp' (bv hp 2 n.toNat) n.toNat (mv_l as) m ∧ sf_rd hp' 3 4 = some 0 ∧ sf_rd hp' 3 9 = some 0 ∧ sf_rd hp' 1 1 = some 0
def s0 : PS := (fun i => if i = 2 then 10 else 0, fun _ => 0, false, fun _ => false)
theorem tok_nok (B : Nat → Int) (n lim i : Nat) : (tok B n lim i).k = 3 → 0 ≤ (tok B n lim i).v ∧ (tok B n lim i).v ≤ 999 := by
  show (tkq B n lim _).k = 3 → 0 ≤ (tkq B n lim _).v ∧ (tkq B n lim _).v ≤ 999
  generalize tk_e tk_b B n (tps B n lim i) = q
  unfold tkq
  split
  · exact fun e => absurd e (by show (1 : Int) ≠ 3; decide)
  · split
    · exact fun e => absurd e (by show (0 : Int) ≠ 3; decide)
    · split
      · unfold trn
        split
        · intro e
          have := kw_rng (pv B q (tk_e tk_r B n q - q))
          have e' : kw (pv B q (tk_e tk_r B n q - q)) = 3 := e
          omega
        · split
          · next h =>
            intro _
            have := nb_rng h.1 h.2
            exact ⟨this.1, this.2.1⟩
          · exact fun e => absurd e (by show (1 : Int) ≠ 3; decide)
      · exact fun e => absurd e (tsg_ne _).1
theorem CK_more {hp : ab_H} {B : Nat → Int} {n lim m j : Nat} (h : TKS hp B n lim m) (hj : j < m) (h0 : (tok B n lim j).k ≠ 0) (h1 : (tok B n lim j).k ≠ 1) : j + 1 < m := by
  obtain ⟨a, b, c, d, e, f⟩ := h
  rcases (show j = m - 1 ∨ j + 1 < m by omega) with g | g
  · rw [← g] at f
    rcases f with f | f
    · exact absurd f h0
    · exact absurd f h1
  · exact g
