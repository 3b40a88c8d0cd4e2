def tk_w (P : Int → Bool) (B : Nat → Int) (n : Nat) : Nat → Nat → Nat
  | 0, p => p
  | f + 1, p => cond (decide (p < n) && P (B p)) (tk_w P B n f (p + 1)) p
def tk_e (P : Int → Bool) (B : Nat → Int) (n p : Nat) : Nat := tk_w P B n (n - p) p
theorem tk_go {P : Int → Bool} {B : Nat → Int} {n p : Nat} (h : p < n) (hP : P (B p) = true) : tk_e P B n p = tk_e P B n (p + 1) := by
  unfold tk_e
  rw [show n - p = (n - (p + 1)) + 1 by omega]
  show cond (decide (p < n) && P (B p)) _ _ = _
  rw [decide_eq_true h, hP]
  rfl
theorem tk_stop {P : Int → Bool} {B : Nat → Int} {n p : Nat} (h : n ≤ p ∨ P (B p) = false) : tk_e P B n p = p := by
  unfold tk_e
  cases hf : n - p with
  | zero => rfl
  | succ f =>
    show cond (decide (p < n) && P (B p)) _ _ = _
    rcases h with h | h
    · omega
    · rw [h, Bool.and_false]
      rfl
def tk_b (c : Int) : Bool := decide (c = 32) || decide (c = 10)
def tk_l (c : Int) : Bool := decide (97 ≤ c) && decide (c ≤ 122)
def tk_d (c : Int) : Bool := decide (48 ≤ c) && decide (c ≤ 57)
def tk_r (c : Int) : Bool := tk_l c || tk_d c
def allP (P : Int → Bool) (B : Nat → Int) (q : Nat) : Nat → Bool
  | 0 => true
  | m + 1 => allP P B q m && P (B (q + m))
def wd (B : Nat → Int) (q : Nat) : Nat → Int
  | 0 => 0
  | l + 1 => wd B q l * 256 + B (q + l)
def nb (B : Nat → Int) (q : Nat) : Nat → Int
  | 0 => 0
  | l + 1 => nb B q l * 10 + (B (q + l) - 48)
def pc (B : Nat → Int) (q len i : Nat) : Int := if i < len then B (q + i) else 32
def evl (c : Nat → Int) : Nat → Int
  | 0 => 0
  | n + 1 => evl c n * 256 + c n
def pv (B : Nat → Int) (q len : Nat) : Int := evl (pc B q len) 7
def rwp : List Int := [30521761567088672, 29114446813077536, 32497644079882272, 33602649256566816, 28536125423362080, 30787886352900128, 30787898074734624, 30796717039645472, 29395861899604768, 27691691673853984, 33602670730507040, 28263382115164192, 28254670528978976, 31369204718379040, 27424449055694880, 31084791984037920, 30506377116214304, 29395861899601252, 30787856282689568, 28536125193592864, 28817566044856352, 31073716639113248, 28817590417629216, 27991845698233700, 31091360100872736]
def kwf (v : Int) : Nat → Nat → Int
  | 0, _ => 2
  | f + 1, k => if v = rwp.getD k 0 then 64 + (k : Int) else kwf v f (k + 1)
def kw (v : Int) : Int := kwf v 25 0
abbrev TT : Type := Int × Int × Int × Nat
def TT.pl (T : TT) : Int := T.2.1
def TT.nx (T : TT) : Nat := T.2.2.2
abbrev tsgp (c : Int) : Prop := c = 59 ∨ c = 60 ∨ c = 61 ∨ c = 62 ∨ c = 40 ∨ c = 41 ∨ c = 46
def tsg (c : Int) : Int := if tsgp c then c else 1
def trn (B : Nat → Int) (q m : Nat) : TT :=
  if allP tk_l B q m = true ∧ m ≤ 7 then ⟨kw (pv B q m), q, wd B q m, q + m⟩
  else if allP tk_d B q m = true ∧ m ≤ 3 then ⟨3, q, nb B q m, q + m⟩
  else ⟨1, q, 0, q + m⟩
def tkq (B : Nat → Int) (n lim q : Nat) : TT :=
  if lim < n ∧ lim ≤ q then ⟨1, lim, 0, q⟩
  else if n ≤ q then ⟨0, n, 0, q⟩
  else if tk_r (B q) = true then trn B q (tk_e tk_r B n q - q)
  else ⟨tsg (B q), q, 0, q + 1⟩
def tkt (B : Nat → Int) (n lim p : Nat) : TT := tkq B n lim (tk_e tk_b B n p)
theorem kwf_rng (v : Int) : ∀ f k, kwf v f k = 2 ∨ (64 ≤ kwf v f k ∧ kwf v f k < 64 + (k : Int) + f)
  | 0, k => Or.inl rfl
  | f + 1, k => by
    have ih := kwf_rng v f (k + 1)
    show (if v = rwp.getD k 0 then 64 + (k : Int) else kwf v f (k + 1)) = 2 ∨ _ ≤ (if v = rwp.getD k 0 then 64 + (k : Int) else kwf v f (k + 1)) ∧ (if v = rwp.getD k 0 then 64 + (k : Int) else kwf v f (k + 1)) < _
    split
    · exact Or.inr ⟨by omega, by omega⟩
    · rcases ih with h | h
      · exact Or.inl h
      · exact Or.inr ⟨h.1, by omega⟩
theorem kw_rng (v : Int) : kw v = 2 ∨ (64 ≤ kw v ∧ kw v ≤ 88) := by
  rcases kwf_rng v 25 0 with h | h
  · exact Or.inl h
  · exact Or.inr ⟨h.1, by have := h.2; unfold kw; omega⟩
theorem tk_l_t {c : Int} (h1 : 97 ≤ c) (h2 : c ≤ 122) : tk_l c = true := by
  unfold tk_l
  rw [decide_eq_true h1, decide_eq_true h2]
  rfl
theorem tk_l_f {c : Int} (h : c < 97 ∨ 122 < c) : tk_l c = false := by
  unfold tk_l
  rcases h with h | h
  · rw [decide_eq_false (show ¬ 97 ≤ c by omega)]
    rfl
  · rw [decide_eq_false (show ¬ c ≤ 122 by omega), Bool.and_false]
theorem tk_d_t {c : Int} (h1 : 48 ≤ c) (h2 : c ≤ 57) : tk_d c = true := by
  unfold tk_d
  rw [decide_eq_true h1, decide_eq_true h2]
  rfl
theorem tk_d_f {c : Int} (h : c < 48 ∨ 57 < c) : tk_d c = false := by
  unfold tk_d
  rcases h with h | h
  · rw [decide_eq_false (show ¬ 48 ≤ c by omega)]
    rfl
  · rw [decide_eq_false (show ¬ c ≤ 57 by omega), Bool.and_false]
theorem tk_l_i {c : Int} (h : tk_l c = true) : 97 ≤ c ∧ c ≤ 122 := by
  unfold tk_l at h
  simpa using h
theorem tk_d_i {c : Int} (h : tk_d c = true) : 48 ≤ c ∧ c ≤ 57 := by
  unfold tk_d at h
  simpa using h
theorem tk_ld {c : Int} (h : tk_l c = true) : tk_d c = false := tk_d_f (by have := tk_l_i h; omega)
theorem tk_dl {c : Int} (h : tk_d c = true) : tk_l c = false := tk_l_f (by have := tk_d_i h; omega)
theorem tk_b_f {c : Int} (h1 : c ≠ 32) (h2 : c ≠ 10) : tk_b c = false := by
  unfold tk_b
  rw [decide_eq_false h1, decide_eq_false h2]
  rfl
theorem tk_r_l {c : Int} (h : tk_l c = true) : tk_r c = true := by
  unfold tk_r
  rw [h]
  rfl
theorem tk_r_d {c : Int} (h : tk_d c = true) : tk_r c = true := by
  unfold tk_r
  rw [h, Bool.or_true]
theorem tk_r_f {c : Int} (h : tk_l c = false) (h2 : tk_d c = false) : tk_r c = false := by
  unfold tk_r
  rw [h, h2]
  rfl
def dg (d : Int) : Int := if d ≤ 96 then 0 else d - 96
def c32 : Nat → Int → Int
  | 0, _ => 0
  | f + 1, v => c32 f (v / 256) * 32 + dg (v % 256)
def LW : Nat → Int → Prop
  | 0, v => v = 0
  | f + 1, v => LW f (v / 256) ∧ (v % 256 = 0 ∨ (97 ≤ v % 256 ∧ v % 256 ≤ 122)) ∧ 0 ≤ v
theorem nb_rng {B : Nat → Int} {q : Nat} : ∀ {l : Nat}, allP tk_d B q l = true → l ≤ 3 → 0 ≤ nb B q l ∧ nb B q l ≤ 999 ∧ (l = 0 → nb B q l = 0) ∧ (l ≤ 1 → nb B q l ≤ 9) ∧ (l ≤ 2 → nb B q l ≤ 99)
  | 0, _, _ => by
    have e : nb B q 0 = 0 := rfl
    exact ⟨by omega, by omega, fun _ => by omega, fun _ => by omega, fun _ => by omega⟩
  | l + 1, h, hl => by
    have h' : (allP tk_d B q l && tk_d (B (q + l))) = true := h
    obtain ⟨h1, h2⟩ : allP tk_d B q l = true ∧ tk_d (B (q + l)) = true := by simpa using h'
    obtain ⟨i1, i2, i3, i4, i5⟩ := nb_rng h1 (by omega)
    have h3 := tk_d_i h2
    have e : nb B q (l + 1) = nb B q l * 10 + (B (q + l) - 48) := rfl
    rw [e]
    rcases (show l = 0 ∨ l = 1 ∨ l = 2 by omega) with c | c | c
    all_goals
      subst c
      skip
      refine ⟨by omega, by omega, fun g => by omega, fun g => by omega, fun g => by omega⟩
def TU (hp hp' : ab_H) : Prop := hp'.2 3 = hp.2 3 ∧ hp'.2 4 = hp.2 4 ∧ hp'.2 5 = hp.2 5 ∧ hp'.2 6 = hp.2 6
theorem TU.rf {hp : ab_H} : TU hp hp := ⟨rfl, rfl, rfl, rfl⟩
theorem TU.tr {hp hp' hp'' : ab_H} (h : TU hp hp') (h' : TU hp' hp'') : TU hp hp'' := ⟨h'.1.trans h.1, h'.2.1.trans h.2.1, h'.2.2.1.trans h.2.2.1, h'.2.2.2.trans h.2.2.2⟩
theorem wd_rng {B : Nat → Int} (hB : ∀ q, 0 ≤ B q ∧ B q ≤ 255) {q : Nat} : ∀ l : Nat, 0 ≤ wd B q l ∧ wd B q l < 256 ^ l
  | 0 => by
    have e : wd B q 0 = 0 := rfl
    rw [e]
    decide
  | l + 1 => by
    have h := wd_rng hB (q := q) l
    have b := hB (q + l)
    have e : (256 : Int) ^ (l + 1) = 256 ^ l * 256 := Int.pow_succ 256 l
    show 0 ≤ wd B q l * 256 + B (q + l) ∧ wd B q l * 256 + B (q + l) < _
    rw [e]
    omega
theorem allP_0 {P : Int → Bool} {B : Nat → Int} {q : Nat} : ∀ {m : Nat}, allP P B q m = true → 1 ≤ m → P (B q) = true
  | 0, _, h => absurd h (by omega)
  | 1, h, _ => by
    have h' : (true && P (B (q + 0))) = true := h
    simpa using h'
  | m + 2, h, _ => by
    have h' : (allP P B q (m + 1) && P (B (q + (m + 1)))) = true := h
    exact allP_0 (m := m + 1) (by simpa using (Bool.and_eq_true _ _ ▸ h' : allP P B q (m + 1) = true ∧ P (B (q + (m + 1))) = true).1) (by omega)
def rkk (k : Int) : Int := if k = 0 then 0 else if k = 1 ∨ k = 46 then 4 else if k = 3 then 2 else if k = 2 ∨ 64 ≤ k then 1 else 3
theorem tkq_none {B : Nat → Int} {n lim q : Nat} (h1 : lim < n) (h2 : lim ≤ q) : tkq B n lim q = ⟨1, lim, 0, q⟩ := by
  unfold tkq
  rw [if_pos ⟨h1, h2⟩]
theorem tkq_end {B : Nat → Int} {n lim q : Nat} (h1 : ¬ (lim < n ∧ lim ≤ q)) (h2 : n ≤ q) : tkq B n lim q = ⟨0, n, 0, q⟩ := by
  unfold tkq
  rw [if_neg h1, if_pos h2]
theorem tkq_run {B : Nat → Int} {n lim q : Nat} (h1 : ¬ (lim < n ∧ lim ≤ q)) (h2 : q < n) (h3 : tk_r (B q) = true) : tkq B n lim q = trn B q (tk_e tk_r B n q - q) := by
  unfold tkq
  rw [if_neg h1, if_neg (by omega), if_pos h3]
theorem tkq_sig {B : Nat → Int} {n lim q : Nat} (h1 : ¬ (lim < n ∧ lim ≤ q)) (h2 : q < n) (h3 : tk_r (B q) = false) : tkq B n lim q = ⟨tsg (B q), q, 0, q + 1⟩ := by
  unfold tkq
  rw [if_neg h1, if_neg (by omega), if_neg (by rw [h3]; decide)]
theorem rkk_yes {c : Int} (h : c = 59 ∨ c = 40 ∨ c = 41 ∨ (60 ≤ c ∧ c ≤ 62)) : tsg c = c ∧ rkk c = 3 := by
  refine ⟨if_pos (by unfold tsgp; omega), ?_⟩
  unfold rkk
  rw [if_neg (by omega), if_neg (by omega), if_neg (by omega), if_neg (by omega)]
theorem rkk_no {c : Int} (h : ¬ (c = 59 ∨ c = 40 ∨ c = 41 ∨ (60 ≤ c ∧ c ≤ 62))) : rkk (tsg c) = 4 := by
  unfold tsg
  split
  · next g =>
    unfold tsgp at g
    have e : c = 46 := by omega
    rw [e]
    rfl
  · rfl
theorem rkk_word (v : Int) : rkk (kw v) = 1 := by
  have := kw_rng v
  unfold rkk
  rw [if_neg (by omega), if_neg (by omega), if_neg (by omega), if_pos (by omega)]
theorem wd_48 {B : Nat → Int} (hB : ∀ q, 0 ≤ B q ∧ B q ≤ 255) {q l : Nat} (h : l ≤ 6) : 0 ≤ wd B q l ∧ wd B q l < 281474976710656 := by
  have h1 := wd_rng hB (q := q) l
  refine ⟨h1.1, ?_⟩
  rcases (show l = 0 ∨ l = 1 ∨ l = 2 ∨ l = 3 ∨ l = 4 ∨ l = 5 ∨ l = 6 by omega) with c | c | c | c | c | c | c
  all_goals
    subst c
    have h2 := h1.2
    simp only [Int.reducePow] at h2
    omega
