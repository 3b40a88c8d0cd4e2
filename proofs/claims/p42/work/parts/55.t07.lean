/-- (0, lo, hi): an int of lo .. hi; (1, g, n): a reference to a cell of the sort g, null too where n is 1; (2, _, _): a long -/
abbrev sf_K : Type := Nat × Int × Int
def sf_Cl : List (List sf_K) := [
  [(0, -2147483648, 2147483647)],
  [(1, 100, 0), (1, 101, 0), (0, -2147483648, 2147483647), (0, -2147483648, 2147483647)],
  [(1, 102, 0), (0, 0, 8)],
  [(1, 7, 0), (1, 15, 0), (1, 5, 0)],
  [(1, 103, 0), (1, 104, 0), (1, 105, 0), (0, 0, 40)],
  [(1, 106, 0), (1, 107, 0), (1, 108, 0), (0, 0, 40), (0, 0, 20), (0, 0, 1)],
  [(1, 149, 0), (1, 150, 0), (1, 151, 0), (1, 152, 0), (1, 153, 0), (1, 154, 0), (1, 155, 0), (0, 0, 400), (0, -2147483648, 2147483647), (0, -2147483648, 2147483647)],
  [(1, 116, 0), (1, 117, 0), (1, 118, 0), (1, 119, 0), (1, 120, 0), (1, 121, 0), (1, 122, 0), (0, -2147483648, 2147483647), (0, 0, 6), (0, 0, 8), (0, 0, 20), (0, 0, 1), (2, 0, 0)],
  [(1, 123, 0), (0, 0, 940), (0, 0, 940)],
  [(1, 124, 0), (1, 125, 0), (1, 126, 0), (0, 0, 901), (0, 0, 901), (0, -2147483648, 2147483647), (0, -2147483648, 2147483647), (0, -2147483648, 2147483647), (2, 0, 0), (0, -2147483648, 2147483647)],
  [(1, 8, 0), (1, 9, 0), (1, 1, 0), (1, 2, 0), (1, 6, 0), (1, 13, 0), (1, 14, 0), (1, 4, 0), (1, 0, 0), (1, 127, 0), (1, 128, 0), (1, 129, 0), (1, 130, 0), (1, 7, 0), (1, 7, 0), (1, 5, 0), (1, 5, 0), (0, 0, 6), (0, -2147483648, 2147483647)],
  [(0, 0, 1), (1, 131, 0), (0, 0, 940), (0, 0, 940), (0, 0, 940), (0, 0, 940), (1, 132, 0), (1, 133, 0), (1, 134, 0), (1, 135, 0), (1, 136, 0), (0, -2147483648, 2147483647), (0, -2147483648, 2147483647), (0, -2147483648, 2147483647), (0, 0, 9999), (0, -2147483648, 2147483647), (0, -2147483648, 2147483647), (2, 0, 0), (0, -1, 999), (0, -2147483648, 2147483647), (0, 0, 1), (1, 137, 0), (0, 0, 40), (1, 138, 0), (1, 139, 0), (0, 0, 8), (1, 140, 0), (1, 141, 0), (0, -1, 6), (0, -2147483648, 2147483647), (0, 0, 40), (1, 142, 0), (0, 0, 1), (1, 143, 0), (0, 0, 45), (0, 0, 20), (0, 0, 45), (0, -2147483648, 2147483647), (0, 0, 1), (1, 144, 0), (1, 145, 0), (1, 146, 0), (1, 147, 0)],
  [],
  [(1, 156, 0), (1, 157, 0), (1, 158, 0), (1, 159, 0), (1, 160, 0), (1, 161, 0), (1, 162, 0), (0, 0, 400), (0, -2147483648, 2147483647), (0, -2147483648, 2147483647)],
  [(1, 163, 0), (1, 164, 0), (1, 165, 0), (1, 166, 0), (1, 167, 0), (1, 168, 0), (1, 169, 0), (0, 0, 400), (0, -2147483648, 2147483647), (0, -2147483648, 2147483647)],
  [(1, 109, 0), (1, 110, 0), (1, 111, 0), (1, 112, 0), (1, 113, 0), (1, 114, 0), (1, 115, 0), (0, 0, 400), (0, -2147483648, 2147483647), (0, -2147483648, 2147483647)]]
def sf_C (c : Nat) : List sf_K := sf_Cl.getD c []
/-- the class of a sort of objects -/
def sf_o (g : Nat) : Nat := cond (decide (13 ≤ g) && decide (g < 16)) 6 g
def sf_Al : List (Nat × Nat × List (Nat × sf_K)) := [
  (1, 6, [(6, (0, -2147483648, 2147483647))]),
  (1, 6, [(6, (0, -2147483648, 2147483647))]),
  (5, 8, [(8, (1, 15, 1))]),
  (1, 40, [(40, (0, 0, 4))]),
  (1, 40, [(40, (0, 0, 11))]),
  (1, 40, [(40, (0, 0, 250))]),
  (1, 40, [(40, (0, -2147483648, 2147483647))]),
  (1, 40, [(40, (0, -2147483648, 2147483647))]),
  (1, 40, [(40, (0, -2147483648, 2147483647))]),
  (1, 12, [(12, (0, 0, 999))]),
  (1, 12, [(12, (0, -2147483648, 2147483647))]),
  (1, 12, [(12, (0, -2147483648, 2147483647))]),
  (1, 12, [(12, (0, -2147483648, 2147483647))]),
  (1, 8, [(8, (0, -2147483648, 2147483647))]),
  (1, 8, [(8, (0, -2147483648, 2147483647))]),
  (1, 64, [(64, (0, -2147483648, 2147483647))]),
  (2, 6, [(6, (2, 0, 0))]),
  (2, 8, [(8, (2, 0, 0))]),
  (1, 8, [(8, (0, -2147483648, 2147483647))]),
  (1, 48, [(48, (0, 0, 250))]),
  (1, 20, [(20, (0, 0, 7))]),
  (1, 20, [(20, (0, 0, 7))]),
  (1, 20, [(20, (0, -2147483648, 2147483647))]),
  (0, 940, [(940, (0, -2147483648, 2147483647))]),
  (1, 901, [(901, (0, -2147483648, 2147483647))]),
  (1, 901, [(901, (0, -2147483648, 2147483647))]),
  (2, 901, [(901, (2, 0, 0))]),
  (4, 2, [(2, (1, 3, 1))]),
  (1, 12, [(12, (0, -2147483648, 2147483647))]),
  (1, 60, [(60, (0, -2147483648, 2147483647))]),
  (1, 4, [(4, (0, -2147483648, 2147483647))]),
  (0, 940, [(940, (0, -2147483648, 2147483647))]),
  (1, 434, [(1, (0, 0, 6)), (2, (0, 0, 8)), (3, (0, 0, 40)), (4, (0, 0, 20)), (16, (0, 0, 250)), (28, (0, 0, 250)), (40, (0, 0, 250)), (52, (0, 0, 250)), (60, (0, -2147483648, 2147483647)), (80, (0, 0, 7)), (100, (0, 0, 7)), (120, (0, -2147483648, 2147483647)), (121, (0, 0, 400)), (124, (0, -2147483648, 2147483647)), (136, (0, 0, 999)), (253, (0, -2147483648, 2147483647)), (254, (0, 0, 45)), (434, (0, -2147483648, 2147483647))]),
  (1, 120, [(1, (0, 0, 6)), (2, (0, 0, 8)), (3, (0, 0, 40)), (4, (0, 0, 20)), (16, (0, 0, 250)), (28, (0, 0, 250)), (40, (0, 0, 250)), (52, (0, 0, 250)), (60, (0, -2147483648, 2147483647)), (80, (0, 0, 7)), (100, (0, 0, 7)), (120, (0, -2147483648, 2147483647))]),
  (1, 160, [(160, (0, -2147483648, 2147483647))]),
  (2, 28, [(28, (2, 0, 0))]),
  (2, 25, [(25, (2, 0, 0))]),
  (1, 4, [(4, (0, -2147483648, 2147483647))]),
  (1, 1064, [(1, (0, 0, 400)), (4, (0, -2147483648, 2147483647)), (16, (0, 0, 999)), (133, (0, -2147483648, 2147483647)), (134, (0, 0, 400)), (137, (0, -2147483648, 2147483647)), (149, (0, 0, 999)), (266, (0, -2147483648, 2147483647)), (267, (0, 0, 400)), (270, (0, -2147483648, 2147483647)), (282, (0, 0, 999)), (399, (0, -2147483648, 2147483647)), (400, (0, 0, 400)), (403, (0, -2147483648, 2147483647)), (415, (0, 0, 999)), (532, (0, -2147483648, 2147483647)), (533, (0, 0, 400)), (536, (0, -2147483648, 2147483647)), (548, (0, 0, 999)), (665, (0, -2147483648, 2147483647)), (666, (0, 0, 400)), (669, (0, -2147483648, 2147483647)), (681, (0, 0, 999)), (798, (0, -2147483648, 2147483647)), (799, (0, 0, 400)), (802, (0, -2147483648, 2147483647)), (814, (0, 0, 999)), (931, (0, -2147483648, 2147483647)), (932, (0, 0, 400)), (935, (0, -2147483648, 2147483647)), (947, (0, 0, 999)), (1064, (0, -2147483648, 2147483647))]),
  (1, 133, [(1, (0, 0, 400)), (4, (0, -2147483648, 2147483647)), (16, (0, 0, 999)), (133, (0, -2147483648, 2147483647))]),
  (1, 60, [(60, (0, -2147483648, 2147483647))]),
  (1, 12, [(12, (0, -2147483648, 2147483647))]),
  (1, 4, [(4, (0, -2147483648, 2147483647))]),
  (1, 45, [(45, (0, -2147483648, 2147483647))]),
  (3, 45, [(45, (0, -2147483648, 2147483647))]),
  (1, 868, [(1, (0, 0, 6)), (2, (0, 0, 8)), (3, (0, 0, 40)), (4, (0, 0, 20)), (16, (0, 0, 250)), (28, (0, 0, 250)), (40, (0, 0, 250)), (52, (0, 0, 250)), (60, (0, -2147483648, 2147483647)), (80, (0, 0, 7)), (100, (0, 0, 7)), (120, (0, -2147483648, 2147483647)), (121, (0, 0, 400)), (124, (0, -2147483648, 2147483647)), (136, (0, 0, 999)), (253, (0, -2147483648, 2147483647)), (254, (0, 0, 45)), (434, (0, -2147483648, 2147483647)), (435, (0, 0, 6)), (436, (0, 0, 8)), (437, (0, 0, 40)), (438, (0, 0, 20)), (450, (0, 0, 250)), (462, (0, 0, 250)), (474, (0, 0, 250)), (486, (0, 0, 250)), (494, (0, -2147483648, 2147483647)), (514, (0, 0, 7)), (534, (0, 0, 7)), (554, (0, -2147483648, 2147483647)), (555, (0, 0, 400)), (558, (0, -2147483648, 2147483647)), (570, (0, 0, 999)), (687, (0, -2147483648, 2147483647)), (688, (0, 0, 45)), (868, (0, -2147483648, 2147483647))]),
  (2, 28, [(28, (2, 0, 0))]),
  (3, 2, [(2, (0, -2147483648, 2147483647))]),
  (2, 1, [(1, (2, 0, 0))]),
  (1, 12, [(12, (0, 0, 999))]),
  (1, 12, [(12, (0, -2147483648, 2147483647))]),
  (1, 12, [(12, (0, -2147483648, 2147483647))]),
  (1, 12, [(12, (0, -2147483648, 2147483647))]),
  (1, 8, [(8, (0, -2147483648, 2147483647))]),
  (1, 8, [(8, (0, -2147483648, 2147483647))]),
  (1, 64, [(64, (0, -2147483648, 2147483647))]),
  (1, 12, [(12, (0, 0, 999))]),
  (1, 12, [(12, (0, -2147483648, 2147483647))]),
  (1, 12, [(12, (0, -2147483648, 2147483647))]),
  (1, 12, [(12, (0, -2147483648, 2147483647))]),
  (1, 8, [(8, (0, -2147483648, 2147483647))]),
  (1, 8, [(8, (0, -2147483648, 2147483647))]),
  (1, 64, [(64, (0, -2147483648, 2147483647))]),
  (1, 12, [(12, (0, 0, 999))]),
  (1, 12, [(12, (0, -2147483648, 2147483647))]),
  (1, 12, [(12, (0, -2147483648, 2147483647))]),
  (1, 12, [(12, (0, -2147483648, 2147483647))]),
  (1, 8, [(8, (0, -2147483648, 2147483647))]),
  (1, 8, [(8, (0, -2147483648, 2147483647))]),
  (1, 64, [(64, (0, -2147483648, 2147483647))])]
def sf_A (g : Nat) : Nat × Nat × List (Nat × sf_K) := sf_Al.getD (g - 100) (9, 0, [])
/-- the sorts of which there is one cell alone, and its place -/
def sf_Pl : List (Nat × Nat) := [(0, 40), (1, 7), (2, 10), (4, 36), (6, 12), (8, 1), (9, 3), (10, 0), (11, 69), (13, 20), (14, 28), (100, 8), (101, 9), (102, 11), (103, 37), (104, 38), (105, 39), (123, 2), (124, 4), (125, 5), (126, 6), (127, 41), (128, 42), (129, 43), (130, 44), (131, 70), (132, 71), (133, 72), (134, 73), (135, 74), (136, 75), (137, 76), (138, 77), (139, 78), (140, 79), (141, 80), (142, 81), (143, 82), (144, 83), (145, 84), (146, 85), (147, 86), (148, 87), (149, 13), (150, 14), (151, 15), (152, 16), (153, 17), (154, 18), (155, 19), (156, 21), (157, 22), (158, 23), (159, 24), (160, 25), (161, 26), (162, 27), (163, 29), (164, 30), (165, 31), (166, 32), (167, 33), (168, 34), (169, 35)]
def sf_P (g : Nat) : Option Nat := (sf_Pl.find? (fun q => q.1 == g)).map (fun q => q.2)
def sf_iv (v : Option Value) : Option Int := match v with
  | some (.int x) => some x.toInt
  | _ => none
def sf_rd (hp : ab_H) (a i : Nat) : Option Int := match hp.2 a with
  | .inr o => sf_iv (o.2[i]?)
  | .inl x => match x.2.2 with
    | .inl f => cond (decide (i < x.2.1)) (some (f i).toInt) none
    | _ => none
/-- the reference in a field -/
def sf_rr (hp : ab_H) (a i : Nat) : Option Nat := match hp.2 a with
  | .inr o => match o.2[i]? with
    | some (.ref b) => some b
    | _ => none
  | _ => none
/-- how many truths lie there after i codes of a sentence that begins at c -/
def cd_run (c : Nat → Int) : Nat → Option Nat
  | 0 => some 0
  | i + 1 => match cd_run c i with
    | none => none
    | some d => cond (decide (c (1 + 3 * i) = 20)) (cond (decide (1 ≤ d)) (some d) none)
      (cond (decide (c (1 + 3 * i) = 21) || decide (c (1 + 3 * i) = 22)) (cond (decide (2 ≤ d)) (some (d - 1)) none)
      (cond (decide (0 ≤ c (1 + 3 * i)) && decide (c (1 + 3 * i) ≤ 8) && (decide (5 ≤ c (1 + 3 * i)) || (decide (0 ≤ c (3 + 3 * i)) && decide (c (3 + 3 * i) ≤ 1)))) (some (d + 1)) none))
def cd_ok (c : Nat → Int) : Prop := 0 ≤ c 0 ∧ c 0 ≤ 44 ∧ cd_run c (c 0).toNat ≠ none
/-- a Sentence's arrays lie behind it; an op up to 84 has a SHORE -/
def sf_I1 (t : Nat → Nat) (hp : ab_H) : Prop := ∀ a, a < hp.1 → t a = 5 → a + 2 < hp.1 ∧ t (a + 1) = 106 ∧ t (a + 2) = 107 ∧ sf_rr hp a 0 = some (a + 1) ∧ sf_rr hp a 1 = some (a + 2) ∧ ∀ i, i < 40 → ∀ x, sf_rd hp (a + 1) i = some x → x ≤ 84 → ∃ y, sf_rd hp (a + 2) i = some y ∧ 0 ≤ y ∧ y ≤ 1
/-- who dies is a MAN -/
def sf_I2 (hp : ab_H) : Prop := ∀ i, i < 40 → sf_rd hp 37 i = some 3 → ∃ y, sf_rd hp 38 i = some y ∧ y ≤ 7
def sf_cd (hp : ab_H) (a i : Nat) : Nat → Int := fun j => (sf_rd hp a (i + j)).getD 0
def sf_I3 (hp : ab_H) : Prop := cd_ok (sf_cd hp 71 253) ∧ cd_ok (sf_cd hp 84 253) ∧ cd_ok (sf_cd hp 84 687)
def sf_IV (t : Nat → Nat) (hp : ab_H) : Prop := sf_I1 t hp ∧ sf_I2 hp ∧ sf_I3 hp
theorem sf_I_same {t t' : Nat → Nat} {hp hp' : ab_H} (h : sf_IV t hp) (hn : hp.1 ≤ hp'.1) (ht : ∀ a, a < hp.1 → t' a = t a) (h5 : ∀ a, hp.1 ≤ a → a < hp'.1 → t' a ≠ 5) (hr : ∀ a, a < hp.1 → t a = 5 → sf_rr hp' a 0 = sf_rr hp a 0 ∧ sf_rr hp' a 1 = sf_rr hp a 1)
    (h6 : ∀ a, a < hp.1 → t a = 106 ∨ t a = 107 → ∀ i, sf_rd hp' a i = sf_rd hp a i) (h37 : ∀ i, sf_rd hp' 37 i = sf_rd hp 37 i) (h38 : ∀ i, sf_rd hp' 38 i = sf_rd hp 38 i) (h71 : ∀ i, 253 ≤ i → sf_rd hp' 71 i = sf_rd hp 71 i) (h84 : ∀ i, sf_rd hp' 84 i = sf_rd hp 84 i) : sf_IV t' hp' := by
  obtain ⟨i1, i2, i3, i4, i5⟩ := h
  refine ⟨fun a ha h5' => ?_, fun i hi hx => ?_, ?_, ?_, ?_⟩
  · have hlt : a < hp.1 := Nat.not_le.mp fun q => h5 a q ha h5'
    rw [ht a hlt] at h5'
    obtain ⟨q1, q2, q3, q4, q5, q6⟩ := i1 a hlt h5'
    have l1 : a + 1 < hp.1 := Nat.lt_of_succ_lt q1
    refine ⟨Nat.lt_of_lt_of_le q1 hn, (ht _ l1).trans q2, (ht _ q1).trans q3, (hr a hlt h5').1.trans q4, (hr a hlt h5').2.trans q5, fun i hi x hx hx2 => ?_⟩
    rw [h6 _ l1 (Or.inl q2)] at hx
    rw [h6 _ q1 (Or.inr q3)]
    exact q6 i hi x hx hx2
  · rw [h37] at hx
    rw [h38]
    exact i2 i hi hx
  · have e : sf_cd hp' 71 253 = sf_cd hp 71 253 := funext fun j => by
      unfold sf_cd
      rw [h71 _ (Nat.le_add_right _ _)]
    rw [e]
    exact i3
  · have e : sf_cd hp' 84 253 = sf_cd hp 84 253 := funext fun j => by
      unfold sf_cd
      rw [h84]
    rw [e]
    exact i4
  · have e : sf_cd hp' 84 687 = sf_cd hp 84 687 := funext fun j => by
      unfold sf_cd
      rw [h84]
    rw [e]
    exact i5
theorem sf_rd_up_ne {hp : ab_H} {a b i : Nat} {c : ab_E} (h : b ≠ a) : sf_rd (ab_up hp a c) b i = sf_rd hp b i := by
  have e : (ab_up hp a c).2 b = hp.2 b := if_neg h
  unfold sf_rd
  rw [e]
theorem sf_rr_up_ne {hp : ab_H} {a b i : Nat} {c : ab_E} (h : b ≠ a) : sf_rr (ab_up hp a c) b i = sf_rr hp b i := by
  unfold sf_rr
  rw [ab_up_ne h]
/-- the numbers between which something must hold -/
def sf_sp (g i1 : Nat) : Bool := decide (g = 103) || decide (g = 104) || decide (g = 106) || decide (g = 107) || decide (g = 145) || (decide (g = 132) && decide (253 ≤ i1))
def sf_v (t : Nat → Nat) (n : Nat) (k : sf_K) (v : Value) : Prop := match v with
  | .int x => k.1 = 0 ∧ k.2.1 ≤ x.toInt ∧ x.toInt ≤ k.2.2
  | .ref a => k.1 = 1 ∧ a < n ∧ (t a : Int) = k.2.1
  | .null => k.1 = 1 ∧ k.2.2 = 1
  | .long _ => k.1 = 2
  | _ => False
/-- the kind of an element -/
def sf_e : List (Nat × sf_K) → Nat → sf_K
  | [], _ => (9, 0, 0)
  | q :: r, j => cond (decide (j < q.1)) q.2 (sf_e r j)
def sf_c (t : Nat → Nat) (n g : Nat) (c : ab_E) : Prop := match c with
  | .inr o => o.1 = sf_o g ∧ g < 100 ∧ ∀ (i : Nat) (k : sf_K), (sf_C g)[i]? = some k → ∃ v, o.2[i]? = some v ∧ sf_v t n k v
  | .inl x => 100 ≤ g ∧ x.1 = (sf_A g).1 ∧ x.2.1 = (sf_A g).2.1 ∧ (match x.2.2 with
    | .inl f => x.1 ≠ 2 ∧ x.1 < 4 ∧ ∀ j, j < x.2.1 → sf_v t n (sf_e (sf_A g).2.2 j) (.int (f j))
    | .inr (.inl _) => x.1 = 2
    | .inr (.inr (.inr (.inr f))) => 4 ≤ x.1 ∧ x.1 < 6 ∧ ∀ j, j < x.2.1 → sf_v t n (sf_e (sf_A g).2.2 j) (ab_rf (f j))
    | _ => False)
def sf_h (t : Nat → Nat) (hp : ab_H) : Prop := (∀ k, k < hp.1 → sf_c t hp.1 (t k) (hp.2 k)) ∧ (∀ k q, k < hp.1 → sf_P (t k) = some q → k = q) ∧ (∀ g q, sf_P g = some q → q < hp.1 ∧ t q = g) ∧ sf_IV t hp
/-- an object's field -/
theorem sf_get {t : Nat → Nat} {hp : ab_H} (H : sf_h t hp) {a ci i : Nat} {k : sf_K} (ha : a < hp.1) (ht : t a = ci) (hc : ci < 100) (hk : (sf_C ci)[i]? = some k) : ∃ fs v, hp.2 a = .inr (sf_o ci, fs) ∧ fs[i]? = some v ∧ sf_v t hp.1 k v := by
  have h := H.1 a ha
  rw [ht] at h
  cases e : hp.2 a with
  | inl x =>
    rw [e] at h
    exact absurd h.1 (by omega)
  | inr o =>
    rw [e] at h
    obtain ⟨c, fs⟩ := o
    obtain ⟨h1, -, h3⟩ := h
    obtain ⟨v, hv, hs⟩ := h3 i k hk
    have h1' : c = sf_o ci := h1
    subst h1'
    exact ⟨fs, v, rfl, hv, hs⟩
theorem sf_put {t : Nat → Nat} {hp : ab_H} (H : sf_h t hp) {a ci i : Nat} {k : sf_K} {fs : List Value} {v : Value} (ha : a < hp.1) (ht : t a = ci) (he : hp.2 a = .inr (sf_o ci, fs)) (hk : (sf_C ci)[i]? = some k) (hv : sf_v t hp.1 k v) (hI : sf_IV t (ab_up hp a (.inr (sf_o ci, fs.set i v)))) : sf_h t (ab_up hp a (.inr (sf_o ci, fs.set i v))) := by
  refine ⟨fun q hq => ?_, H.2.1, H.2.2.1, hI⟩
  have h := H.1 q hq
  show sf_c t hp.1 (t q) (if q = a then _ else hp.2 q)
  by_cases e : q = a
  · subst e
    rw [if_pos rfl]
    rw [he, ht] at h
    rw [ht]
    obtain ⟨h1, h2, h3⟩ := h
    refine ⟨h1, h2, fun j k' hj => ?_⟩
    obtain ⟨w, hw, hs⟩ := h3 j k' hj
    show ∃ w, (fs.set i v)[j]? = some w ∧ _
    by_cases hij : i = j
    · subst hij
      rw [hk] at hj
      cases hj
      exact ⟨v, by rw [List.getElem?_set_self (List.getElem?_eq_some_iff.mp hw).1], hv⟩
    · exact ⟨w, by rw [List.getElem?_set_ne hij]; exact hw, hs⟩
  · rw [if_neg e]
    exact h
/-- an array of ints, bytes or booleans -/
theorem sf_arr {t : Nat → Nat} {hp : ab_H} (H : sf_h t hp) {a g : Nat} (ha : a < hp.1) (ht : t a = g) (hg : 100 ≤ g) (h4 : (sf_A g).1 < 4) (h2 : (sf_A g).1 ≠ 2) : ∃ f, hp.2 a = .inl ((sf_A g).1, (sf_A g).2.1, .inl f) ∧ ∀ j, j < (sf_A g).2.1 → sf_v t hp.1 (sf_e (sf_A g).2.2 j) (.int (f j)) := by
  have h := H.1 a ha
  rw [ht] at h
  cases e : hp.2 a with
  | inr o =>
    rw [e] at h
    exact absurd h.2.1 (by omega)
  | inl x =>
    rw [e] at h
    obtain ⟨kd, len, w⟩ := x
    obtain ⟨-, q2, q3, q4⟩ := h
    have q2' : kd = (sf_A g).1 := q2
    have q3' : len = (sf_A g).2.1 := q3
    subst q2' q3'
    obtain f | f | f | f | f := w
    · exact ⟨f, rfl, q4.2.2⟩
    · exact absurd q4 h2
    · exact q4.elim
    · exact q4.elim
    · exact absurd (show 4 ≤ (sf_A g).1 from q4.1) (Nat.not_le.mpr h4)
theorem sf_arr_put {t : Nat → Nat} {hp : ab_H} (H : sf_h t hp) {a g : Nat} {f : Nat → Int32} (ha : a < hp.1) (ht : t a = g) (hg : 100 ≤ g) (h4 : (sf_A g).1 < 4) (h2 : (sf_A g).1 ≠ 2) (hf : ∀ j, j < (sf_A g).2.1 → sf_v t hp.1 (sf_e (sf_A g).2.2 j) (.int (f j))) (hI : sf_IV t (ab_up hp a (.inl ((sf_A g).1, (sf_A g).2.1, .inl f)))) : sf_h t (ab_up hp a (.inl ((sf_A g).1, (sf_A g).2.1, .inl f))) := by
  refine ⟨fun q hq => ?_, H.2.1, H.2.2.1, hI⟩
  have h := H.1 q hq
  show sf_c t hp.1 (t q) (if q = a then _ else hp.2 q)
  by_cases e : q = a
  · subst e
    rw [if_pos rfl, ht]
    exact ⟨hg, rfl, rfl, h2, h4, hf⟩
  · rw [if_neg e]
    exact h
/-- an array of longs -/
theorem sf_larr {t : Nat → Nat} {hp : ab_H} (H : sf_h t hp) {a g : Nat} (ha : a < hp.1) (ht : t a = g) (hg : 100 ≤ g) (h2 : (sf_A g).1 = 2) : ∃ f, hp.2 a = .inl (2, (sf_A g).2.1, .inr (.inl f)) := by
  have h := H.1 a ha
  rw [ht] at h
  cases e : hp.2 a with
  | inr o =>
    rw [e] at h
    exact absurd h.2.1 (by omega)
  | inl x =>
    rw [e] at h
    obtain ⟨kd, len, w⟩ := x
    obtain ⟨-, q2, q3, q4⟩ := h
    have q2' : kd = (sf_A g).1 := q2
    have q3' : len = (sf_A g).2.1 := q3
    subst q2' q3'
    obtain f | f | f | f | f := w
    · exact absurd h2 q4.1
    · exact ⟨f, by rw [h2]⟩
    · exact q4.elim
    · exact q4.elim
    · exact absurd (show 4 ≤ (sf_A g).1 from q4.1) (fun e => absurd (h2 ▸ e : 4 ≤ 2) (by decide))
theorem sf_larr_put {t : Nat → Nat} {hp : ab_H} (H : sf_h t hp) {a g : Nat} {f : Nat → Int64} (ha : a < hp.1) (ht : t a = g) (hg : 100 ≤ g) (h2 : (sf_A g).1 = 2) (hI : sf_IV t (ab_up hp a (.inl (2, (sf_A g).2.1, .inr (.inl f))))) : sf_h t (ab_up hp a (.inl (2, (sf_A g).2.1, .inr (.inl f)))) := by
  refine ⟨fun q hq => ?_, H.2.1, H.2.2.1, hI⟩
  have h := H.1 q hq
  show sf_c t hp.1 (t q) (if q = a then _ else hp.2 q)
  by_cases e : q = a
  · subst e
    rw [if_pos rfl, ht]
    exact ⟨hg, h2.symm, rfl, rfl⟩
  · rw [if_neg e]
    exact h
theorem sf_I_up {t : Nat → Nat} {hp : ab_H} (H : sf_h t hp) {a i0 i1 : Nat} {c : ab_E} (hs : sf_sp (t a) i1 = false) (hr : ∀ i, ¬ (i0 ≤ i ∧ i ≤ i1) → sf_rd (ab_up hp a c) a i = sf_rd hp a i) (hrr : t a = 5 → sf_rr (ab_up hp a c) a 0 = sf_rr hp a 0 ∧ sf_rr (ab_up hp a c) a 1 = sf_rr hp a 1) : sf_IV t (ab_up hp a c) := by
  unfold sf_sp at hs
  simp only [Bool.or_eq_false_iff, Bool.and_eq_false_iff, decide_eq_false_iff_not] at hs
  obtain ⟨⟨⟨⟨⟨s1, s2⟩, s3⟩, s4⟩, s5⟩, s6⟩ := hs
  have p1 := (H.2.2.1 103 37 rfl).2
  have p2 := (H.2.2.1 104 38 rfl).2
  have p3 := (H.2.2.1 132 71 rfl).2
  have p4 := (H.2.2.1 145 84 rfl).2
  refine sf_I_same H.2.2.2 (Nat.le_refl _) (fun _ _ => rfl) (fun q h1 h2 => absurd h2 (Nat.not_lt.mpr h1)) (fun q hq h5 => ?_) (fun q hq h6 i => ?_) (fun i => ?_) (fun i => ?_) (fun i hi => ?_) (fun i => ?_)
  · by_cases e : q = a
    · subst e
      exact hrr h5
    · exact ⟨sf_rr_up_ne e, sf_rr_up_ne e⟩
  · exact sf_rd_up_ne fun e => by
      subst e
      rcases h6 with h | h
      · exact s3 h
      · exact s4 h
  · exact sf_rd_up_ne fun e => s1 (by rw [← e]; exact p1)
  · exact sf_rd_up_ne fun e => s2 (by rw [← e]; exact p2)
  · by_cases e : 71 = a
    · subst e
      rcases s6 with h | h
      · exact absurd p3 h
      · exact hr i (by omega)
    · exact sf_rd_up_ne e
  · exact sf_rd_up_ne fun e => s5 (by rw [← e]; exact p4)
/-- of a local or of a value on the stack: (0, _, _) an int; (1, g, n) a reference to a cell of the sort g (null too where n is 1); (2, _, _) a long; (3, i, _) the i-th thing that was there before; (8, _, _) no long; else nothing -/
abbrev sf_J : Type := Nat × Nat × Nat
def sf_j (t : Nat → Nat) (n : Nat) (j : sf_J) (v : Option Value) : Prop :=
  (j.1 = 0 → ∃ x, v = some (.int x)) ∧
  (j.1 = 1 → (∃ a, v = some (.ref a) ∧ a < n ∧ t a = j.2.1) ∨ (j.2.2 = 1 ∧ v = some .null)) ∧
  (j.1 = 2 → ∃ x, v = some (.long x)) ∧
  (j.1 = 3 → v = some (.retAddr j.2.1)) ∧
  (j.1 = 8 → (∀ x, v ≠ some (.long x)) ∧ ∀ x, v ≠ some (.double x))
theorem n_add {x y : Int32} (h1 : -2147483648 ≤ x.toInt + y.toInt) (h2 : x.toInt + y.toInt ≤ 2147483647) : (x + y).toInt = x.toInt + y.toInt := by
  rw [Int32.toInt_add]
  exact Int.bmod_eq_of_le (by omega) (by omega)
theorem n_sub {x y : Int32} (h1 : -2147483648 ≤ x.toInt - y.toInt) (h2 : x.toInt - y.toInt ≤ 2147483647) : (x - y).toInt = x.toInt - y.toInt := by
  rw [Int32.toInt_sub]
  exact Int.bmod_eq_of_le (by omega) (by omega)
theorem n_mul {x y : Int32} (h1 : -2147483648 ≤ x.toInt * y.toInt) (h2 : x.toInt * y.toInt ≤ 2147483647) : (x * y).toInt = x.toInt * y.toInt := by
  rw [Int32.toInt_mul]
  exact Int.bmod_eq_of_le (by omega) (by omega)
theorem n_range (x : Int32) : -2147483648 ≤ x.toInt ∧ x.toInt ≤ 2147483647 := by
  have h1 := Int32.le_toInt x
  have h2 := Int32.toInt_lt x
  omega
theorem n_neg {x : Int32} (h : x.toInt ≠ -2147483648) : (-x).toInt = - x.toInt := by
  have hx := n_range x
  rw [Int32.toInt_neg]
  exact Int.bmod_eq_of_le (by omega) (by omega)
theorem n_in {x : Int32} {n : Nat} (h1 : 0 ≤ x.toInt) (h2 : x.toInt < n) : ab_in x n = true := by
  have e : ¬ x < 0 := fun h => by
    have := Int32.lt_iff_toInt_lt.mp h
    have e0 : (0 : Int32).toInt = 0 := rfl
    omega
  have e2 : x.toNatClampNeg < n := by
    show x.toInt.toNat < n
    omega
  rw [ab_in, decide_eq_false e, decide_eq_true e2]
  rfl
theorem n_idx {x : Int32} (h1 : 0 ≤ x.toInt) : (x.toNatClampNeg : Int) = x.toInt := by
  show ((x.toInt.toNat : Nat) : Int) = x.toInt
  omega
def sf_inW (W : List (Nat × Nat × Nat)) (g i : Nat) : Bool := W.any (fun w => decide (w.1 = g) && decide (w.2.1 ≤ i) && decide (i ≤ w.2.2))
/-- may the way that the reference has left to read grow: marked by 999 -/
def sf_mk (W : List (Nat × Nat × Nat)) : Bool := W.any (fun w => decide (w.1 = 999))
/-- the way that the reference has left to read -/
def sf_psi (hp : ab_H) : Int := match sf_rd hp 69 4, sf_rd hp 69 11 with
  | some p, some k => 2 * (940 - p) + cond (decide (1 ≤ k) && decide (k ≤ 3)) 1 0
  | _, _ => 0
/-- what has stayed: the sorts, the numbers outside W, the cells of sorts that W doesn't name -/
def sf_fr (W : List (Nat × Nat × Nat)) (t : Nat → Nat) (hp : ab_H) (t' : Nat → Nat) (hp' : ab_H) : Prop :=
  hp.1 ≤ hp'.1 ∧ (∀ a, a < hp.1 → t' a = t a) ∧ (∀ a, a < hp.1 → ∀ i, sf_inW W (t a) i = false → sf_rd hp' a i = sf_rd hp a i) ∧ (∀ a, a < hp.1 → W.all (fun w => decide (w.1 ≠ t a)) = true → hp'.2 a = hp.2 a) ∧ (sf_mk W = false → sf_psi hp' ≤ sf_psi hp)
theorem sf_fr_up {W : List (Nat × Nat × Nat)} {t : Nat → Nat} {hp : ab_H} {a i0 i1 : Nat} {c : ab_E} (hW : ∀ i, i0 ≤ i → i ≤ i1 → sf_inW W (t a) i = true) (hn : i0 ≤ i1) (hr : ∀ i, ¬ (i0 ≤ i ∧ i ≤ i1) → sf_rd (ab_up hp a c) a i = sf_rd hp a i) (hm : sf_mk W = true ∨ a ≠ 69 ∨ (¬ (i0 ≤ 4 ∧ 4 ≤ i1) ∧ ¬ (i0 ≤ 11 ∧ 11 ≤ i1))) : sf_fr W t hp t (ab_up hp a c) := by
  refine ⟨Nat.le_refl _, fun _ _ => rfl, fun b _ i hi => ?_, fun b _ hw => ?_, fun hk => ?_⟩
  · by_cases e : b = a
    · subst e
      exact hr i fun h => by
        rw [hW i h.1 h.2] at hi
        cases hi
    · exact sf_rd_up_ne e
  · have e : b ≠ a := fun e => by
      subst e
      have h1 := hW i0 (Nat.le_refl _) hn
      unfold sf_inW at h1
      obtain ⟨w, hw1, hw2⟩ := List.any_eq_true.mp h1
      have h2 := List.all_eq_true.mp hw w hw1
      simp only [Bool.and_eq_true, decide_eq_true_eq] at hw2 h2
      exact h2 hw2.1.1
    show (if b = a then c else hp.2 b) = hp.2 b
    rw [if_neg e]
  · have e : sf_rd (ab_up hp a c) 69 4 = sf_rd hp 69 4 ∧ sf_rd (ab_up hp a c) 69 11 = sf_rd hp 69 11 := by
      rcases hm with h | h | h
      · rw [h] at hk
        cases hk
      · exact ⟨sf_rd_up_ne (Ne.symm h), sf_rd_up_ne (Ne.symm h)⟩
      · by_cases e : 69 = a
        · subst e
          exact ⟨hr 4 h.1, hr 11 h.2⟩
        · exact ⟨sf_rd_up_ne e, sf_rd_up_ne e⟩
    unfold sf_psi
    rw [e.1, e.2]
    exact Int.le_refl _
theorem sf_n69 {t : Nat → Nat} {hp : ab_H} (H : sf_h t hp) {a g : Nat} (ht : t a = g) (hg : 100 ≤ g) : a ≠ 69 := fun e => by
  have := (H.2.2.1 11 69 rfl).2
  rw [e] at ht
  omega
theorem sf_rd_up_obj {hp : ab_H} {a c i : Nat} {fs : List Value} : sf_rd (ab_up hp a (.inr (c, fs))) a i = sf_iv fs[i]? := by
  unfold sf_rd
  rw [ab_up_eq]
def sf_cv (W : List (Nat × Nat × Nat)) (g i0 i1 : Nat) : Bool := W.any (fun w => decide (w.1 = g) && decide (w.2.1 ≤ i0) && decide (i1 ≤ w.2.2)) && decide (i0 ≤ i1)
theorem sf_cv_ok {W : List (Nat × Nat × Nat)} {g i0 i1 : Nat} (h : sf_cv W g i0 i1 = true) : (∀ i, i0 ≤ i → i ≤ i1 → sf_inW W g i = true) ∧ i0 ≤ i1 := by
  unfold sf_cv at h
  rw [Bool.and_eq_true, decide_eq_true_eq] at h
  refine ⟨fun i h1 h2 => ?_, h.2⟩
  obtain ⟨w, hw, e⟩ := List.any_eq_true.mp h.1
  simp only [Bool.and_eq_true, decide_eq_true_eq] at e
  refine List.any_eq_true.mpr ⟨w, hw, ?_⟩
  simp only [Bool.and_eq_true, decide_eq_true_eq]
  exact ⟨⟨e.1.1, Nat.le_trans e.1.2 h1⟩, Nat.le_trans h2 e.2⟩
/-- the least range about the kinds of the elements lo .. hi -/
def sf_hu : List (Nat × sf_K) → Nat → Nat → Int × Int
  | [], _, _ => (2147483647, -2147483648)
  | q :: r, lo, hi => cond (decide (lo < q.1)) (cond (decide (hi < q.1)) (q.2.2.1, q.2.2.2) (min q.2.2.1 (sf_hu r q.1 hi).1, max q.2.2.2 (sf_hu r q.1 hi).2)) (sf_hu r lo hi)
theorem sf_hu_ok {t : Nat → Nat} {n : Nat} {x : Int32} : ∀ {l : List (Nat × sf_K)} {lo hi j : Nat}, lo ≤ j → j ≤ hi → sf_v t n (sf_e l j) (.int x) → (sf_hu l lo hi).1 ≤ x.toInt ∧ x.toInt ≤ (sf_hu l lo hi).2
  | [], lo, hi, j, _, _, h => absurd h.1 (by show (9 : Nat) ≠ 0; decide)
  | q :: r, lo, hi, j, h1, h2, h => by
    rw [sf_e] at h
    rw [sf_hu]
    by_cases c1 : lo < q.1
    · rw [decide_eq_true c1]
      by_cases c2 : hi < q.1
      · rw [decide_eq_true c2]
        rw [decide_eq_true (Nat.lt_of_le_of_lt h2 c2)] at h
        exact ⟨h.2.1, h.2.2⟩
      · rw [decide_eq_false c2]
        by_cases c3 : j < q.1
        · rw [decide_eq_true c3] at h
          have a1 : q.2.2.1 ≤ x.toInt := h.2.1
          have a2 : x.toInt ≤ q.2.2.2 := h.2.2
          exact ⟨by show min _ _ ≤ _; omega, by show _ ≤ max _ _; omega⟩
        · rw [decide_eq_false c3] at h
          have ih := sf_hu_ok (l := r) (lo := q.1) (hi := hi) (Nat.not_lt.mp c3) h2 h
          exact ⟨by show min _ _ ≤ _; omega, by show _ ≤ max _ _; omega⟩
    · rw [decide_eq_false c1]
      rw [decide_eq_false (show ¬ j < q.1 by omega)] at h
      exact sf_hu_ok h1 h2 h
/-- numbers of a range may lie in all elements lo .. hi -/
def sf_al : List (Nat × sf_K) → Nat → Nat → Int × Int → Bool
  | [], _, _, _ => false
  | q :: r, lo, hi, i => cond (decide (lo < q.1)) (decide (q.2.1 = 0) && decide (q.2.2.1 ≤ i.1) && decide (i.2 ≤ q.2.2.2) && cond (decide (hi < q.1)) true (sf_al r q.1 hi i)) (sf_al r lo hi i)
theorem sf_al_ok {t : Nat → Nat} {n : Nat} {x : Int32} {i : Int × Int} (hx : i.1 ≤ x.toInt ∧ x.toInt ≤ i.2) : ∀ {l : List (Nat × sf_K)} {lo hi j : Nat}, lo ≤ j → j ≤ hi → sf_al l lo hi i = true → sf_v t n (sf_e l j) (.int x)
  | [], lo, hi, j, _, _, h => by cases h
  | q :: r, lo, hi, j, h1, h2, h => by
    rw [sf_al] at h
    rw [sf_e]
    by_cases c1 : lo < q.1
    · rw [decide_eq_true c1] at h
      replace h : (decide (q.2.1 = 0) && decide (q.2.2.1 ≤ i.1) && decide (i.2 ≤ q.2.2.2) && cond (decide (hi < q.1)) true (sf_al r q.1 hi i)) = true := h
      rw [Bool.and_eq_true, Bool.and_eq_true, Bool.and_eq_true, decide_eq_true_eq, decide_eq_true_eq, decide_eq_true_eq] at h
      by_cases c3 : j < q.1
      · rw [decide_eq_true c3]
        exact ⟨h.1.1.1, Int.le_trans h.1.1.2 hx.1, Int.le_trans hx.2 h.1.2⟩
      · rw [decide_eq_false c3]
        have h4 := h.2
        rw [decide_eq_false (show ¬ hi < q.1 by omega)] at h4
        exact sf_al_ok hx (Nat.not_lt.mp c3) h2 h4
    · rw [decide_eq_false c1] at h
      rw [decide_eq_false (show ¬ j < q.1 by omega)]
      exact sf_al_ok hx h1 h2 h
theorem sf_rd_up_arr {hp : ab_H} {a kd len i : Nat} {f : Nat → Int32} : sf_rd (ab_up hp a (.inl (kd, len, .inl f))) a i = cond (decide (i < len)) (some (f i).toInt) none := by
  unfold sf_rd
  rw [ab_up_eq]
theorem sf_rd_up_larr {hp : ab_H} {a kd len i : Nat} {f : Nat → Int64} : sf_rd (ab_up hp a (.inl (kd, len, .inr (.inl f)))) a i = none := by
  unfold sf_rd
  rw [ab_up_eq]
theorem sf_sp2 {g i1 : Nat} (h : (sf_A g).1 = 2) : sf_sp g i1 = false := by
  unfold sf_sp
  rw [decide_eq_false (fun e : g = 103 => by subst e; revert h; decide), decide_eq_false (fun e : g = 104 => by subst e; revert h; decide), decide_eq_false (fun e : g = 106 => by subst e; revert h; decide), decide_eq_false (fun e : g = 107 => by subst e; revert h; decide), decide_eq_false (fun e : g = 145 => by subst e; revert h; decide), decide_eq_false (fun e : g = 132 => by subst e; revert h; decide)]
  rfl
