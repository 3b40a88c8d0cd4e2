/-! ===== what would be: the first DAY on which something is so ===== -/
def m_fst (P : Nat → Bool) : Nat → Option Nat
  | 0 => none
  | k + 1 => match m_fst P k with
    | some i => some i
    | none => if P k = true then some k else none
theorem m_fst_n {P : Nat → Bool} {k : Nat} (h : m_fst P k = none) (c : P k = false) : m_fst P (k + 1) = none := by
  unfold m_fst
  rw [h]
  exact if_neg (by rw [c]; decide)
theorem m_fst_s {P : Nat → Bool} {k : Nat} (h : m_fst P k = none) (c : P k = true) : ∀ j, m_fst P (k + 1 + j) = some k
  | 0 => by
    show m_fst P (k + 1) = some k
    unfold m_fst
    rw [h]
    exact if_pos c
  | j + 1 => by
    have ih := m_fst_s h c j
    show m_fst P (k + 1 + j + 1) = some k
    unfold m_fst
    rw [ih]
theorem m_fst_e {P : Nat → Bool} {k n : Nat} (h : m_fst P k = none) (c : P k = true) (hk : k < n) : m_fst P n = some k := by
  have e := m_fst_s h c (n - (k + 1))
  rw [show k + 1 + (n - (k + 1)) = n by omega] at e
  exact e
theorem m_fst_0 {P : Nat → Bool} {k : Nat} (h : m_fst P k = none) : ∀ j, (∀ i, k ≤ i → P i = false) → m_fst P (k + j) = none
  | 0, _ => h
  | j + 1, c => m_fst_n (k := k + j) (m_fst_0 h j c) (c (k + j) (Nat.le_add_right k j))
theorem m_fst_z {P : Nat → Bool} {k n : Nat} (h : m_fst P k = none) (hk : k ≤ n) (c : ∀ i, k ≤ i → P i = false) : m_fst P n = none := by
  have e := m_fst_0 h (n - k) c
  rw [show k + (n - k) = n by omega] at e
  exact e
theorem m_fst_all {P : Nat → Bool} : ∀ {n : Nat}, m_fst P n = none → ∀ i, i < n → P i = false
  | 0, _, i, h => by omega
  | n + 1, h, i, hi => by
    unfold m_fst at h
    split at h
    · cases h
    · rename_i hn
      split at h
      · cases h
      · rename_i c
        by_cases e : i = n
        · rw [e]
          simpa using c
        · exact m_fst_all hn i (by omega)
theorem m_days_400 {T : St} {S : Sh} {k i : Nat} (h : ¬ h_d (m_days T S k) < 400) (hi : k ≤ i) : h_d (m_days T S i) = h_d (m_days T S k) := by rw [m_days_e hi h]
def pCross (T : St) (S : Sh) (m k : Nat) : Bool := decide (h_d (m_days T S k) < 400) && m_bit (m_board T (m_days T S k)) m
def pComes (T : St) (S : Sh) (g s k : Nat) : Bool := decide (h_d (m_days T S k) < 400) && !decide (m_from (m_days T S k) = s) && !decide (m_fr T (m_days T S k) g ≤ 0)
def aDay (T : St) (S : Sh) (q : Option Nat) : Int32 := match q with
  | none => -1
  | some k => Int32.ofNat (h_d (m_days T S k))
def a_crosses (T : St) (S : Sh) (x : Int32) : Int32 := match nd (t_m T) x with
  | none => -1
  | some m => if m_alive S m = true then aDay T S (m_fst (pCross T S m) 100) else -1
def a_comes (T : St) (S : Sh) (x y : Int32) : Int32 := aGS T x y fun g s => aDay T S (m_fst (pComes T S g s) 100)
/-- a number from a to b, or none -/
def ndr (a b : Nat) (x : Int32) : Option Nat := if (a : Int) ≤ x.toInt ∧ x.toInt ≤ b then some x.toInt.toNat else none
theorem ndr_some {a b k : Nat} {x : Int32} (h : ndr a b x = some k) : a ≤ k ∧ k ≤ b ∧ x = Int32.ofNat k := by
  unfold ndr at h
  split at h
  · rename_i c
    obtain rfl := Option.some.inj h
    refine ⟨by omega, by omega, Int32.toInt_inj.mp ?_⟩
    have := Int32.toInt_lt x
    rw [i_toInt (by omega)]
    omega
  · cases h
theorem ndr_t {a b : Nat} {x : Int32} (h : (ndr a b x).isSome = true) : ∃ k, ndr a b x = some k ∧ a ≤ k ∧ k ≤ b ∧ x = Int32.ofNat k := by
  obtain ⟨k, hk⟩ := Option.isSome_iff_exists.mp h
  exact ⟨k, hk, ndr_some hk⟩
theorem ndr_f {a b : Nat} {x : Int32} (h : (ndr a b x).isSome = false) : ndr a b x = none := by
  cases e : ndr a b x with
  | none => rfl
  | some k =>
    rw [e] at h
    cases h
theorem ndr_in {a b : Nat} {x : Int32} (ha : a < 2147483648) (hb : b < 2147483648) : (decide (Int32.ofNat a ≤ x) && decide (x ≤ Int32.ofNat b)) = (ndr a b x).isSome := by
  unfold ndr
  have e1 : (Int32.ofNat a ≤ x) ↔ (a : Int) ≤ x.toInt := by rw [Int32.le_iff_toInt_le, i_toInt ha]
  have e2 : (x ≤ Int32.ofNat b) ↔ x.toInt ≤ b := by rw [Int32.le_iff_toInt_le, i_toInt hb]
  by_cases h1 : (a : Int) ≤ x.toInt
  · rw [decide_eq_true (e1.mpr h1)]
    by_cases h2 : x.toInt ≤ b
    · rw [decide_eq_true (e2.mpr h2), if_pos ⟨h1, h2⟩]
      rfl
    · rw [decide_eq_false (fun c => h2 (e2.mp c)), if_neg (fun c => h2 c.2)]
      rfl
  · rw [decide_eq_false (fun c => h1 (e1.mp c)), if_neg (fun c => h1 c.1)]
    rfl
/-- the DAYS till these two are on one SHORE -/
def pMeet (T : St) (S : Sh) (m o k : Nat) : Bool := decide (h_a (m_days T S k) m = h_a (m_days T S k) o)
def a_meet (T : St) (S : Sh) (x y : Int32) : Int32 := match liv2 T S x y with
  | none => -1
  | some q => match m_fst (pMeet T S q.1 q.2) 101 with
    | none => -1
    | some k => if h_d (m_days T S k) = h_d S + k then Int32.ofNat k else -1
def a_loads (T : St) (S : Sh) (x : Int32) : Int32 := match ndr 1 60 x with
  | none => -1
  | some n => h_r (m_days T S n) - h_r S
def a_hunger (T : St) (S : Sh) (x y z : Int32) : Int32 := aGS T x y fun g s => match ndr 1 60 z with
  | none => -1
  | some n => h_u (m_days T S n) (2 * g + s) - h_u S (2 * g + s)
