def tk_w (P : Int → Bool) (B : Nat → Int) (n : Nat) : Nat → Nat → Nat
  | 0, p => p
  | f + 1, p => cond (decide (p < n) && P (B p)) (tk_w P B n f (p + 1)) p
def tk_e (P : Int → Bool) (B : Nat → Int) (n p : Nat) : Nat := tk_w P B n (n - p) p
theorem tk_go {P : Int → Bool} {B : Nat → Int} {n p : Nat} (h : p < n) (hP : P (B p) = true) : tk_e P B n p = tk_e P B n (p + 1) := by
  unfold tk_e
  rw [show n - p = (n - (p + 1)) + 1 by omega]
  show cond (decide (p < n) && P (B p)) _ _ = _
  rw [decide_eq_true h, hP]
  rfl
theorem tk_stop {P : Int → Bool} {B : Nat → Int} {n p : Nat} (h : n ≤ p ∨ P (B p) = false) : tk_e P B n p = p := by
  unfold tk_e
  cases hf : n - p with
  | zero => rfl
  | succ f =>
    show cond (decide (p < n) && P (B p)) _ _ = _
    rcases h with h | h
    · omega
    · rw [h, Bool.and_false]
      rfl
theorem tk_ge {P : Int → Bool} {B : Nat → Int} {n : Nat} : ∀ (f p : Nat), p ≤ tk_w P B n f p
  | 0, p => Nat.le_refl p
  | f + 1, p => by
    show p ≤ cond (decide (p < n) && P (B p)) (tk_w P B n f (p + 1)) p
    cases (decide (p < n) && P (B p)) with
    | false => exact Nat.le_refl p
    | true => exact Nat.le_trans (Nat.le_succ p) (tk_ge f (p + 1))
theorem tk_le {P : Int → Bool} {B : Nat → Int} {n : Nat} : ∀ (f p : Nat), p ≤ n → tk_w P B n f p ≤ n
  | 0, p, h => h
  | f + 1, p, h => by
    show cond (decide (p < n) && P (B p)) (tk_w P B n f (p + 1)) p ≤ n
    by_cases c : p < n
    · rw [decide_eq_true c]
      cases P (B p) with
      | false => exact h
      | true => exact tk_le f (p + 1) c
    · rw [decide_eq_false c]
      exact h
def tk_b (c : Int) : Bool := decide (c = 32) || decide (c = 10)
def tk_l (c : Int) : Bool := decide (97 ≤ c) && decide (c ≤ 122)
def tk_d (c : Int) : Bool := decide (48 ≤ c) && decide (c ≤ 57)
def tk_r (c : Int) : Bool := tk_l c || tk_d c
def bv (hp : ab_H) (a n q : Nat) : Int := if q < n then ((sf_rd hp a q).getD 0) % 256 else 0
theorem bv_at {hp : ab_H} {a n q : Nat} {v : Int} (h : sf_rd hp a q = some v) (hq : q < n) : bv hp a n q = v % 256 := by
  unfold bv
  rw [if_pos hq, h]
  rfl
theorem bv_rng (hp : ab_H) (a n q : Nat) : 0 ≤ bv hp a n q ∧ bv hp a n q ≤ 255 := by
  unfold bv
  split <;> omega
theorem bv_same {hp hp' : ab_H} {a n : Nat} (h : ∀ q, sf_rd hp' a q = sf_rd hp a q) : bv hp' a n = bv hp a n := funext fun q => by
  unfold bv
  rw [h]
def allP (P : Int → Bool) (B : Nat → Int) (q : Nat) : Nat → Bool
  | 0 => true
  | m + 1 => allP P B q m && P (B (q + m))
def wd (B : Nat → Int) (q : Nat) : Nat → Int
  | 0 => 0
  | l + 1 => wd B q l * 256 + B (q + l)
def w32 (B : Nat → Int) (q : Nat) : Nat → Int
  | 0 => 0
  | l + 1 => w32 B q l * 32 + (B (q + l) - 96)
def nb (B : Nat → Int) (q : Nat) : Nat → Int
  | 0 => 0
  | l + 1 => nb B q l * 10 + (B (q + l) - 48)
def pc (B : Nat → Int) (q len i : Nat) : Int := if i < len then B (q + i) else 32
def evl (c : Nat → Int) : Nat → Int
  | 0 => 0
  | n + 1 => evl c n * 256 + c n
def pv (B : Nat → Int) (q len : Nat) : Int := evl (pc B q len) 7
theorem evl_inj {c d : Nat → Int} : ∀ {n : Nat}, (∀ i, i < n → 0 ≤ c i ∧ c i ≤ 255) → (∀ i, i < n → 0 ≤ d i ∧ d i ≤ 255) → (evl c n = evl d n ↔ ∀ i, i < n → c i = d i)
  | 0, _, _ => ⟨fun _ i h => absurd h (Nat.not_lt_zero i), fun _ => rfl⟩
  | n + 1, hc, hd => by
    have ih := evl_inj (n := n) (fun i hi => hc i (by omega)) (fun i hi => hd i (by omega))
    have h1 := hc n (by omega)
    have h2 := hd n (by omega)
    show evl c n * 256 + c n = evl d n * 256 + d n ↔ _
    constructor
    · intro e i hi
      rcases (show i < n ∨ i = n by omega) with h | h
      · exact ih.mp (by omega) i h
      · subst h
        omega
    · intro e
      rw [ih.mpr fun i hi => e i (by omega), e n (by omega)]
def rwp : List Int := [30521761567088672, 29114446813077536, 32497644079882272, 33602649256566816, 28536125423362080, 30787886352900128, 30787898074734624, 30796717039645472, 29395861899604768, 27691691673853984, 33602670730507040, 28263382115164192, 28254670528978976, 31369204718379040, 27424449055694880, 31084791984037920, 30506377116214304, 29395861899601252, 30787856282689568, 28536125193592864, 28817566044856352, 31073716639113248, 28817590417629216, 27991845698233700, 31091360100872736]
def kwf (v : Int) : Nat → Nat → Int
  | 0, _ => 2
  | f + 1, k => if v = rwp.getD k 0 then 64 + (k : Int) else kwf v f (k + 1)
def kw (v : Int) : Int := kwf v 25 0
abbrev TT : Type := Int × Int × Int × Nat
def TT.k (T : TT) : Int := T.1
def TT.pl (T : TT) : Int := T.2.1
def TT.v (T : TT) : Int := T.2.2.1
def TT.nx (T : TT) : Nat := T.2.2.2
abbrev tsgp (c : Int) : Prop := c = 59 ∨ c = 60 ∨ c = 61 ∨ c = 62 ∨ c = 40 ∨ c = 41 ∨ c = 46
def tsg (c : Int) : Int := if tsgp c then c else 1
theorem tsg_ne (c : Int) : tsg c ≠ 3 ∧ tsg c ≠ 2 ∧ tsg c ≠ 0 := by
  unfold tsg
  split
  · next h =>
    unfold tsgp at h
    omega
  · exact ⟨by decide, by decide, by decide⟩
def trn (B : Nat → Int) (q m : Nat) : TT :=
  if allP tk_l B q m = true ∧ m ≤ 7 then ⟨kw (pv B q m), q, wd B q m, q + m⟩
  else if allP tk_d B q m = true ∧ m ≤ 3 then ⟨3, q, nb B q m, q + m⟩
  else ⟨1, q, 0, q + m⟩
def tkq (B : Nat → Int) (n lim q : Nat) : TT :=
  if lim < n ∧ lim ≤ q then ⟨1, lim, 0, q⟩
  else if n ≤ q then ⟨0, n, 0, q⟩
  else if tk_r (B q) = true then trn B q (tk_e tk_r B n q - q)
  else ⟨tsg (B q), q, 0, q + 1⟩
def tkt (B : Nat → Int) (n lim p : Nat) : TT := tkq B n lim (tk_e tk_b B n p)
def tps (B : Nat → Int) (n lim : Nat) : Nat → Nat
  | 0 => 0
  | i + 1 => (tkt B n lim (tps B n lim i)).nx
def tok (B : Nat → Int) (n lim i : Nat) : TT := tkt B n lim (tps B n lim i)
theorem tps_s (B : Nat → Int) (n lim i : Nat) : tps B n lim (i + 1) = (tok B n lim i).nx := rfl
theorem allP_r {B : Nat → Int} {q n e : Nat} (he : tk_e tk_r B n q = e) : tk_e tk_r B n q = e := he
theorem kwf_rng (v : Int) : ∀ f k, kwf v f k = 2 ∨ (64 ≤ kwf v f k ∧ kwf v f k < 64 + (k : Int) + f)
  | 0, k => Or.inl rfl
  | f + 1, k => by
    have ih := kwf_rng v f (k + 1)
    show (if v = rwp.getD k 0 then 64 + (k : Int) else kwf v f (k + 1)) = 2 ∨ _ ≤ (if v = rwp.getD k 0 then 64 + (k : Int) else kwf v f (k + 1)) ∧ (if v = rwp.getD k 0 then 64 + (k : Int) else kwf v f (k + 1)) < _
    split
    · exact Or.inr ⟨by omega, by omega⟩
    · rcases ih with h | h
      · exact Or.inl h
      · exact Or.inr ⟨h.1, by omega⟩
theorem kw_rng (v : Int) : kw v = 2 ∨ (64 ≤ kw v ∧ kw v ≤ 88) := by
  rcases kwf_rng v 25 0 with h | h
  · exact Or.inl h
  · exact Or.inr ⟨h.1, by have := h.2; unfold kw; omega⟩
theorem kwf_skip {v : Int} {f k : Nat} (h : v ≠ rwp.getD k 0) : kwf v (f + 1) k = kwf v f (k + 1) := if_neg h
theorem kwf_hit {v : Int} {f k : Nat} (h : v = rwp.getD k 0) : kwf v (f + 1) k = 64 + (k : Int) := if_pos h
theorem trn_nx (B : Nat → Int) (q m : Nat) : (trn B q m).nx = q + m := by
  unfold trn
  split
  · rfl
  · split <;> rfl
theorem tk_e_ge {P : Int → Bool} {B : Nat → Int} {n p : Nat} : p ≤ tk_e P B n p := tk_ge _ _
theorem tk_e_le {P : Int → Bool} {B : Nat → Int} {n p : Nat} (h : p ≤ n) : tk_e P B n p ≤ n := tk_le _ _ h
theorem tkq_mv {B : Nat → Int} {n lim q : Nat} (h0 : (tkq B n lim q).k ≠ 0) (h1 : (tkq B n lim q).k ≠ 1) : q < (tkq B n lim q).nx ∧ q < n ∧ (q < lim ∨ n ≤ lim) := by
  unfold tkq at h0 h1 ⊢
  by_cases c : lim < n ∧ lim ≤ q
  · rw [if_pos c] at h1
    exact absurd rfl h1
  · rw [if_neg c] at h0 h1 ⊢
    by_cases c2 : n ≤ q
    · rw [if_pos c2] at h0
      exact absurd rfl h0
    · rw [if_neg c2] at h0 h1 ⊢
      refine ⟨?_, by omega, by omega⟩
      by_cases c3 : tk_r (B q) = true
      · rw [if_pos c3, trn_nx, tk_go (by omega) c3]
        have := tk_e_ge (P := tk_r) (B := B) (n := n) (p := q + 1)
        omega
      · rw [if_neg c3]
        exact Nat.lt_succ_self q
theorem tps_le {B : Nat → Int} {n lim : Nat} : ∀ {i : Nat}, (∀ j, j < i → (tok B n lim j).k ≠ 0 ∧ (tok B n lim j).k ≠ 1) → i ≤ tps B n lim i
  | 0, _ => Nat.zero_le _
  | i + 1, h => by
    have ih := tps_le (i := i) fun j hj => h j (by omega)
    have h1 := (tkq_mv (B := B) (n := n) (lim := lim) (q := tk_e tk_b B n (tps B n lim i)) (h i (by omega)).1 (h i (by omega)).2).1
    have h2 := tk_e_ge (P := tk_b) (B := B) (n := n) (p := tps B n lim i)
    have h3 : tps B n lim (i + 1) = (tkq B n lim (tk_e tk_b B n (tps B n lim i))).nx := rfl
    omega
