/-! ===== what holds between cells ===== -/
def sf_iv (v : Option Value) : Option Int := match v with
  | some (.int x) => some x.toInt
  | _ => none
def sf_rd (hp : ab_H) (a i : Nat) : Option Int := match hp.2 a with
  | .inr o => sf_iv (o.2[i]?)
  | .inl x => match x.2.2 with
    | .inl f => cond (decide (i < x.2.1)) (some (f i).toInt) none
    | _ => none
/-- the reference in a field -/
def sf_rr (hp : ab_H) (a i : Nat) : Option Nat := match hp.2 a with
  | .inr o => match o.2[i]? with
    | some (.ref b) => some b
    | _ => none
  | _ => none
/-- how many truths lie there after i codes of a sentence that begins at c -/
def cd_run (c : Nat → Int) : Nat → Option Nat
  | 0 => some 0
  | i + 1 => match cd_run c i with
    | none => none
    | some d => cond (decide (c (1 + 3 * i) = 20)) (cond (decide (1 ≤ d)) (some d) none)
      (cond (decide (c (1 + 3 * i) = 21) || decide (c (1 + 3 * i) = 22)) (cond (decide (2 ≤ d)) (some (d - 1)) none)
      (cond (decide (0 ≤ c (1 + 3 * i)) && decide (c (1 + 3 * i) ≤ 8) && (decide (5 ≤ c (1 + 3 * i)) || (decide (0 ≤ c (3 + 3 * i)) && decide (c (3 + 3 * i) ≤ 1)))) (some (d + 1)) none))
def cd_ok (c : Nat → Int) : Prop := 0 ≤ c 0 ∧ c 0 ≤ 44 ∧ cd_run c (c 0).toNat ≠ none
/-- a Sentence's arrays lie behind it; an op up to 84 has a SHORE -/
def sf_I1 (t : Nat → Nat) (hp : ab_H) : Prop := ∀ a, a < hp.1 → t a = 5 → a + 2 < hp.1 ∧ t (a + 1) = 106 ∧ t (a + 2) = 107 ∧ sf_rr hp a 0 = some (a + 1) ∧ sf_rr hp a 1 = some (a + 2) ∧ ∀ i, i < 40 → ∀ x, sf_rd hp (a + 1) i = some x → x ≤ 84 → ∃ y, sf_rd hp (a + 2) i = some y ∧ 0 ≤ y ∧ y ≤ 1
/-- who dies is a MAN -/
def sf_I2 (hp : ab_H) : Prop := ∀ i, i < 40 → sf_rd hp 37 i = some 3 → ∃ y, sf_rd hp 38 i = some y ∧ y ≤ 7
def sf_cd (hp : ab_H) (a i : Nat) : Nat → Int := fun j => (sf_rd hp a (i + j)).getD 0
def sf_I3 (hp : ab_H) : Prop := cd_ok (sf_cd hp 71 253) ∧ cd_ok (sf_cd hp 84 253) ∧ cd_ok (sf_cd hp 84 687)
def sf_IV (t : Nat → Nat) (hp : ab_H) : Prop := sf_I1 t hp ∧ sf_I2 hp ∧ sf_I3 hp
theorem sf_I_same {t t' : Nat → Nat} {hp hp' : ab_H} (h : sf_IV t hp) (hn : hp.1 ≤ hp'.1) (ht : ∀ a, a < hp.1 → t' a = t a) (h5 : ∀ a, hp.1 ≤ a → a < hp'.1 → t' a ≠ 5) (hr : ∀ a, a < hp.1 → t a = 5 → sf_rr hp' a 0 = sf_rr hp a 0 ∧ sf_rr hp' a 1 = sf_rr hp a 1)
    (h6 : ∀ a, a < hp.1 → t a = 106 ∨ t a = 107 → ∀ i, sf_rd hp' a i = sf_rd hp a i) (h37 : ∀ i, sf_rd hp' 37 i = sf_rd hp 37 i) (h38 : ∀ i, sf_rd hp' 38 i = sf_rd hp 38 i) (h71 : ∀ i, 253 ≤ i → sf_rd hp' 71 i = sf_rd hp 71 i) (h84 : ∀ i, sf_rd hp' 84 i = sf_rd hp 84 i) : sf_IV t' hp' := by
  obtain ⟨i1, i2, i3, i4, i5⟩ := h
  refine ⟨fun a ha h5' => ?_, fun i hi hx => ?_, ?_, ?_, ?_⟩
  · have hlt : a < hp.1 := Nat.not_le.mp fun q => h5 a q ha h5'
    rw [ht a hlt] at h5'
    obtain ⟨q1, q2, q3, q4, q5, q6⟩ := i1 a hlt h5'
    have l1 : a + 1 < hp.1 := Nat.lt_of_succ_lt q1
    refine ⟨Nat.lt_of_lt_of_le q1 hn, (ht _ l1).trans q2, (ht _ q1).trans q3, (hr a hlt h5').1.trans q4, (hr a hlt h5').2.trans q5, fun i hi x hx hx2 => ?_⟩
    rw [h6 _ l1 (Or.inl q2)] at hx
    rw [h6 _ q1 (Or.inr q3)]
    exact q6 i hi x hx hx2
  · rw [h37] at hx
    rw [h38]
    exact i2 i hi hx
  · have e : sf_cd hp' 71 253 = sf_cd hp 71 253 := funext fun j => by
      unfold sf_cd
      rw [h71 _ (Nat.le_add_right _ _)]
    rw [e]
    exact i3
  · have e : sf_cd hp' 84 253 = sf_cd hp 84 253 := funext fun j => by
      unfold sf_cd
      rw [h84]
    rw [e]
    exact i4
  · have e : sf_cd hp' 84 687 = sf_cd hp 84 687 := funext fun j => by
      unfold sf_cd
      rw [h84]
    rw [e]
    exact i5
theorem sf_rd_up_ne {hp : ab_H} {a b i : Nat} {c : ab_E} (h : b ≠ a) : sf_rd (ab_up hp a c) b i = sf_rd hp b i := by
  have e : (ab_up hp a c).2 b = hp.2 b := if_neg h
  unfold sf_rd
  rw [e]
theorem sf_rr_up_ne {hp : ab_H} {a b i : Nat} {c : ab_E} (h : b ≠ a) : sf_rr (ab_up hp a c) b i = sf_rr hp b i := by
  unfold sf_rr
  rw [ab_up_ne h]
/-- the numbers between which something must hold -/
def sf_sp (g i1 : Nat) : Bool := decide (g = 103) || decide (g = 104) || decide (g = 106) || decide (g = 107) || decide (g = 145) || (decide (g = 132) && decide (253 ≤ i1))
