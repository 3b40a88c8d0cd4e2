/-! ===== a method that keeps its contract, by its code alone ===== -/
def sf_li : List sf_J → Nat → List Nat
  | [], _ => []
  | j :: r, i => i :: sf_li r (cond (decide (j.1 = 2)) (i + 2) (i + 1))
def sf_ek : List sf_J → List sf_J
  | [] => []
  | j :: r => cond (decide (j.1 = 2)) (j :: (8, 0, 0) :: sf_ek r) (j :: sf_ek r)
theorem sf_j8 {t : Nat → Nat} {n : Nat} : sf_j t n (8, 0, 0) none :=
  ⟨fun e => absurd e (by show (8 : Nat) ≠ 0; decide), fun e => absurd e (by show (8 : Nat) ≠ 1; decide), fun e => absurd e (by show (8 : Nat) ≠ 2; decide), fun e => absurd e (by show (8 : Nat) ≠ 3; decide), fun _ => ⟨fun x e => (by cases e), fun x e => (by cases e)⟩⟩
theorem sf_ent {t : Nat → Nat} {n : Nat} : ∀ {js : List sf_J} {as : List Value} (i0 : Nat), as.length = js.length → (∀ (i : Nat) (j : sf_J), js[i]? = some j → sf_j t n j as[i]?) → js.all (fun j => decide (j.1 ≤ 3)) = true →
    (ab_ent as).length = (sf_ek js).length ∧ (∀ (i : Nat) (j : sf_J), (sf_ek js)[i]? = some j → sf_j t n j ((ab_ent as)[i]?).join) ∧ ∀ (q p : Nat), (sf_li js i0)[q]? = some p → ∃ x, as[q]? = some x ∧ i0 ≤ p ∧ (ab_ent as)[p - i0]? = some (some x)
  | [], as, i0, hl, _, _ => by
    cases as with
    | nil => exact ⟨rfl, fun i j h => (by cases h), fun q p h => (by cases h)⟩
    | cons v as => cases hl
  | j :: js, as, i0, hl, hj, hk => by
    cases as with
    | nil => cases hl
    | cons v as =>
      rw [List.all_cons, Bool.and_eq_true, decide_eq_true_eq] at hk
      have h0 := hj 0 j rfl
      have h0' : sf_j t n j (some v) := h0
      have hj' : ∀ (i : Nat) (j : sf_J), js[i]? = some j → sf_j t n j as[i]? := fun i j' h => hj (i + 1) j' h
      have hl' : as.length = js.length := Nat.succ.inj hl
      by_cases c : j.1 = 2
      · obtain ⟨x, hx⟩ := h0'.2.2.1 c
        cases hx
        obtain ⟨a1, a2, a3⟩ := sf_ent (js := js) (as := as) (i0 + 2) hl' hj' hk.2
        have e1 : sf_ek (j :: js) = j :: (8, 0, 0) :: sf_ek js := by
          rw [sf_ek, decide_eq_true c]
          rfl
        have e2 : ab_ent (.long x :: as) = some (.long x) :: none :: ab_ent as := rfl
        have e3 : sf_li (j :: js) i0 = i0 :: sf_li js (i0 + 2) := by
          rw [sf_li, decide_eq_true c]
          rfl
        rw [e1, e2, e3]
        refine ⟨by rw [List.length_cons, List.length_cons, List.length_cons, List.length_cons, a1], fun i j' h => ?_, fun q p h => ?_⟩
        · match i, h with
          | 0, h =>
            cases h
            exact h0'
          | 1, h =>
            cases h
            exact sf_j8
          | i + 2, h => exact a2 i j' h
        · match q, h with
          | 0, h =>
            cases h
            exact ⟨.long x, rfl, Nat.le_refl _, by rw [Nat.sub_self]; rfl⟩
          | q + 1, h =>
            obtain ⟨y, y1, y2, y3⟩ := a3 q p h
            refine ⟨y, y1, by omega, ?_⟩
            rw [show p - i0 = (p - (i0 + 2)) + 2 by omega]
            exact y3
      · obtain ⟨a1, a2, a3⟩ := sf_ent (js := js) (as := as) (i0 + 1) hl' hj' hk.2
        have e1 : sf_ek (j :: js) = j :: sf_ek js := by
          rw [sf_ek, decide_eq_false c]
          rfl
        have e2 : ab_ent (v :: as) = some v :: ab_ent as := by
          obtain ⟨j1, j2, j3⟩ := j
          match j1, hk.1, c, h0' with
          | 0, _, _, h0' =>
            obtain ⟨x, hx⟩ := h0'.1 rfl
            cases hx
            rfl
          | 1, _, _, h0' =>
            rcases h0'.2.1 rfl with ⟨x, hx, -⟩ | ⟨-, hx⟩
            · cases hx
              rfl
            · cases hx
              rfl
          | 2, _, c, _ => exact absurd rfl c
          | 3, _, _, h0' =>
            have hx := h0'.2.2.2.1 rfl
            cases hx
            rfl
          | j1 + 4, h4, _, _ => exact absurd h4 (by show ¬ j1 + 4 ≤ 3; omega)
        have e3 : sf_li (j :: js) i0 = i0 :: sf_li js (i0 + 1) := by
          rw [sf_li, decide_eq_false c]
          rfl
        rw [e1, e2, e3]
        refine ⟨by rw [List.length_cons, List.length_cons, a1], fun i j' h => ?_, fun q p h => ?_⟩
        · match i, h with
          | 0, h =>
            cases h
            exact h0'
          | i + 1, h => exact a2 i j' h
        · match q, h with
          | 0, h =>
            cases h
            exact ⟨v, rfl, Nat.le_refl _, by rw [Nat.sub_self]; rfl⟩
          | q + 1, h =>
            obtain ⟨y, y1, y2, y3⟩ := a3 q p h
            refine ⟨y, y1, by omega, ?_⟩
            rw [show p - i0 = (p - (i0 + 1)) + 1 by omega]
            exact y3
theorem sf_li_len : ∀ (js : List sf_J) (i : Nat), (sf_li js i).length = js.length
  | [], _ => rfl
  | j :: js, i => by rw [sf_li, List.length_cons, List.length_cons, sf_li_len js]
/-- a place of a contract's entry, in the method -/
def sf_p0 (li : List Nat) (p : Nat) : Nat := cond (decide (p % 3 = 0)) (3 * li.getD (p / 3) 0 + 1) p
def sf_p1 (li : List Nat) (p : Nat) : Nat := cond (decide (p % 3 = 0) && decide (p ≠ 0)) (3 * li.getD (p / 3 - 1) 0 + 1) p
def sf_g0 (n p : Nat) : Bool := (decide (p % 3 = 0) && decide (p / 3 < n)) || (decide (p % 3 = 2) && decide (1000 ≤ p / 3))
def sf_g1 (n : Nat) (li wr : List Nat) (p : Nat) : Bool := decide (p = 0) || (decide (p % 3 = 0) && decide (p / 3 - 1 < n) && decide (li.getD (p / 3 - 1) 0 ∉ wr)) || (decide (p % 3 = 2) && decide (1000 ≤ p / 3))
def sf_fm (r : Nat → Nat) (f : sf_F) : sf_F := (f.1, r f.2.1, cond (decide (f.1 = 1)) 0 (r f.2.2.1), f.2.2.2)
theorem sf_fm_ok {v v' : Nat → Option Int} {r : Nat → Nat} {b : Nat → Bool} (h : ∀ p, b p = true → v' (r p) = v p) {f : sf_F} (hb : (b f.2.1 && (decide (f.1 = 1) || b f.2.2.1)) = true) : sf_s v f ↔ sf_s v' (sf_fm r f) := by
  rw [Bool.and_eq_true, Bool.or_eq_true, decide_eq_true_eq] at hb
  have hp := h _ hb.1
  obtain ⟨k, p, q, z⟩ := f
  have hq : k ≠ 1 → v' (cond (decide (k = 1)) 0 (r q)) = v q := fun e => by
    rw [decide_eq_false e]
    exact h q (hb.2.resolve_left e)
  exact ⟨fun g => sf_s_map hp hq g, fun g => sf_s_map hp.symm (fun e => (hq e).symm) g⟩
def sf_d0 (nL : Nat) (k : sf_Q) : sf_D := (sf_ek k.1 ++ List.replicate (nL - (sf_ek k.1).length) (8, 0, 0), [], k.2.1.map (sf_fm (sf_p0 (sf_li k.1 0))), 0, 0)
def sf_look (D : List (Nat × sf_D × sf_M)) (pc : Nat) : Option (sf_D × sf_M) := (D.find? (fun r => r.1 == pc)).map (fun r => r.2)
def sf_st (K : List sf_Q) (W : List (Nat × Nat × Nat)) (D : List (Nat × sf_D × sf_M)) (q : sf_I) (d : sf_D) (m : sf_M) : Bool := match sf_go K W q d with
  | none => false
  | some out => out.all (fun o => match sf_look D o.1 with
    | some r => sf_le o.2 r.1 && sf_mc K W q d o.2.2.2.1 m.2 r.2.2 m.1 r.2.1
    | none => false)
def sf_re (k : sf_Q) (wr : List Nat) (q : sf_I) (d : sf_D) : Bool := decide (d.2.2.2.1 ≤ sf_n0 q.2 0) && decide (d.2.2.2.2 ≤ sf_n0 q.2 1) &&
  k.2.2.2.1.all (fun f => sf_g1 k.1.length (sf_li k.1 0) wr f.2.1 && (decide (f.1 = 1) || sf_g1 k.1.length (sf_li k.1 0) wr f.2.2.1)) && sf_dd d.2.2.1 (k.2.2.2.1.map (sf_fm (sf_p1 (sf_li k.1 0)))) &&
  (match q.1 with
  | 35 => (match d.2.1 with
    | [(0, _, _)] => true
    | _ => false) && decide (k.2.2.1 = some (0, 0, 0))
  | 36 => (match d.2.1 with
    | [(0, _, _)] => true
    | _ => false) && decide (k.2.2.1 = some (0, 0, 0)) && decide (0 ≤ (sf_i d.2.2.1 0).1) && decide ((sf_i d.2.2.1 0).2 ≤ 1)
  | 37 => (match d.2.1 with
    | [] => true
    | _ => false) && decide (k.2.2.1 = none)
  | _ => false)
def sf_chk (K : List sf_Q) (k : sf_Q) (nL : Nat) (C : List (Nat × sf_I)) (D : List (Nat × sf_D × sf_M)) : Bool :=
  k.1.all (fun j => decide (j.1 ≤ 3)) && decide ((sf_ek k.1).length ≤ nL) && k.2.1.all (fun f => sf_g0 k.1.length f.2.1 && (decide (f.1 = 1) || sf_g0 k.1.length f.2.2.1)) &&
  (match sf_look D 0 with
  | some r => sf_le (sf_d0 nL k) r.1
  | none => false) && D.all (fun r => C.any (fun c => c.1 == r.1)) &&
  C.all (fun c => match sf_look D c.1 with
  | none => true
  | some r => cond (decide (35 ≤ c.2.1) && decide (c.2.1 ≤ 37)) (sf_re k (C.flatMap (fun c => sf_wr c.2)) c.2 r.1) (sf_st K k.2.2.2.2 D c.2 r.1 r.2))
