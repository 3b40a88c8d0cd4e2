/-! ===== what would be: the first DAY on which something is so ===== -/
def m_fst (P : Nat → Bool) : Nat → Option Nat
  | 0 => none
  | k + 1 => match m_fst P k with
    | some i => some i
    | none => if P k = true then some k else none
theorem m_fst_n {P : Nat → Bool} {k : Nat} (h : m_fst P k = none) (c : P k = false) : m_fst P (k + 1) = none := by
  unfold m_fst
  rw [h]
  exact if_neg (by rw [c]; decide)
theorem m_fst_s {P : Nat → Bool} {k : Nat} (h : m_fst P k = none) (c : P k = true) : ∀ j, m_fst P (k + 1 + j) = some k
  | 0 => by
    show m_fst P (k + 1) = some k
    unfold m_fst
    rw [h]
    exact if_pos c
  | j + 1 => by
    have ih := m_fst_s h c j
    show m_fst P (k + 1 + j + 1) = some k
    unfold m_fst
    rw [ih]
theorem m_fst_e {P : Nat → Bool} {k n : Nat} (h : m_fst P k = none) (c : P k = true) (hk : k < n) : m_fst P n = some k := by
  have e := m_fst_s h c (n - (k + 1))
  rw [show k + 1 + (n - (k + 1)) = n by omega] at e
  exact e
theorem m_fst_0 {P : Nat → Bool} {k : Nat} (h : m_fst P k = none) : ∀ j, (∀ i, k ≤ i → P i = false) → m_fst P (k + j) = none
  | 0, _ => h
  | j + 1, c => m_fst_n (k := k + j) (m_fst_0 h j c) (c (k + j) (Nat.le_add_right k j))
theorem m_fst_z {P : Nat → Bool} {k n : Nat} (h : m_fst P k = none) (hk : k ≤ n) (c : ∀ i, k ≤ i → P i = false) : m_fst P n = none := by
  have e := m_fst_0 h (n - k) c
  rw [show k + (n - k) = n by omega] at e
  exact e
theorem m_fst_all {P : Nat → Bool} : ∀ {n : Nat}, m_fst P n = none → ∀ i, i < n → P i = false
  | 0, _, i, h => by omega
  | n + 1, h, i, hi => by
    unfold m_fst at h
    split at h
    · cases h
    · rename_i hn
      split at h
      · cases h
      · rename_i c
        by_cases e : i = n
        · rw [e]
          simpa using c
        · exact m_fst_all hn i (by omega)
theorem m_days_400 {T : St} {S : Sh} {k i : Nat} (h : ¬ h_d (m_days T S k) < 400) (hi : k ≤ i) : h_d (m_days T S i) = h_d (m_days T S k) := by rw [m_days_e hi h]
def pCross (T : St) (S : Sh) (m k : Nat) : Bool := decide (h_d (m_days T S k) < 400) && m_bit (m_board T (m_days T S k)) m
def pComes (T : St) (S : Sh) (g s k : Nat) : Bool := decide (h_d (m_days T S k) < 400) && !decide (m_from (m_days T S k) = s) && !decide (m_fr T (m_days T S k) g ≤ 0)
def aDay (T : St) (S : Sh) (q : Option Nat) : Int32 := match q with
  | none => -1
  | some k => Int32.ofNat (h_d (m_days T S k))
def a_crosses (T : St) (S : Sh) (x : Int32) : Int32 := match nd (t_m T) x with
  | none => -1
  | some m => if m_alive S m = true then aDay T S (m_fst (pCross T S m) 100) else -1
def a_comes (T : St) (S : Sh) (x y : Int32) : Int32 := aGS T x y fun g s => aDay T S (m_fst (pComes T S g s) 100)
/-- a number from a to b, or none -/
def ndr (a b : Nat) (x : Int32) : Option Nat := if (a : Int) ≤ x.toInt ∧ x.toInt ≤ b then some x.toInt.toNat else none
theorem ndr_some {a b k : Nat} {x : Int32} (h : ndr a b x = some k) : a ≤ k ∧ k ≤ b ∧ x = Int32.ofNat k := by
  unfold ndr at h
  split at h
  · rename_i c
    obtain rfl := Option.some.inj h
    refine ⟨by omega, by omega, Int32.toInt_inj.mp ?_⟩
    have := Int32.toInt_lt x
    rw [i_toInt (by omega)]
    omega
  · cases h
theorem ndr_t {a b : Nat} {x : Int32} (h : (ndr a b x).isSome = true) : ∃ k, ndr a b x = some k ∧ a ≤ k ∧ k ≤ b ∧ x = Int32.ofNat k := by
  obtain ⟨k, hk⟩ := Option.isSome_iff_exists.mp h
  exact ⟨k, hk, ndr_some hk⟩
theorem ndr_f {a b : Nat} {x : Int32} (h : (ndr a b x).isSome = false) : ndr a b x = none := by
  cases e : ndr a b x with
  | none => rfl
  | some k =>
    rw [e] at h
    cases h
theorem ndr_in {a b : Nat} {x : Int32} (ha : a < 2147483648) (hb : b < 2147483648) : (decide (Int32.ofNat a ≤ x) && decide (x ≤ Int32.ofNat b)) = (ndr a b x).isSome := by
  unfold ndr
  have e1 : (Int32.ofNat a ≤ x) ↔ (a : Int) ≤ x.toInt := by rw [Int32.le_iff_toInt_le, i_toInt ha]
  have e2 : (x ≤ Int32.ofNat b) ↔ x.toInt ≤ b := by rw [Int32.le_iff_toInt_le, i_toInt hb]
  by_cases h1 : (a : Int) ≤ x.toInt
  · rw [decide_eq_true (e1.mpr h1)]
    by_cases h2 : x.toInt ≤ b
    · rw [decide_eq_true (e2.mpr h2), if_pos ⟨h1, h2⟩]
      rfl
    · rw [decide_eq_false (fun c => h2 (e2.mp c)), if_neg (fun c => h2 c.2)]
      rfl
  · rw [decide_eq_false (fun c => h1 (e1.mp c)), if_neg (fun c => h1 c.1)]
    rfl
/-- the DAYS till these two are on one SHORE -/
def pMeet (T : St) (S : Sh) (m o k : Nat) : Bool := decide (h_a (m_days T S k) m = h_a (m_days T S k) o)
def a_meet (T : St) (S : Sh) (x y : Int32) : Int32 := match liv2 T S x y with
  | none => -1
  | some q => match m_fst (pMeet T S q.1 q.2) 101 with
    | none => -1
    | some k => Int32.ofNat k
def a_loads (T : St) (S : Sh) (x : Int32) : Int32 := match ndr 1 60 x with
  | none => -1
  | some n => h_r (m_days T S n) - h_r S
def a_hunger (T : St) (S : Sh) (x y z : Int32) : Int32 := aGS T x y fun g s => match ndr 1 60 z with
  | none => -1
  | some n => h_u (m_days T S n) (2 * g + s) - h_u S (2 * g + s)
/-! ===== PRICES ===== -/
/-- one round over the first k; whether a price has moved -/
def m_pI (T : St) (S : Sh) (f : Nat → Int32) : Nat → Nat → Int32
  | 0 => f
  | k + 1 => if h_s S k < t_a T (1 * 12 + k) then up1 (m_pI T S f k) k (m_pI T S f k k + 1) else if t_a T (1 * 12 + k) < h_s S k ∧ 0 < m_pI T S f k k then up1 (m_pI T S f k) k (m_pI T S f k k - 1) else m_pI T S f k
def m_pM (T : St) (S : Sh) (f : Nat → Int32) : Nat → Bool
  | 0 => false
  | k + 1 => m_pM T S f k || (decide (h_s S k < t_a T (1 * 12 + k)) || (decide (t_a T (1 * 12 + k) < h_s S k) && decide (0 < m_pI T S f k k)))
/-- prices after r rounds -/
def m_row (T : St) (S : Sh) : Nat → Nat → Int32
  | 0 => fun _ => 5
  | r + 1 => m_pI T (m_days T S r) (m_row T S r) (2 * t_g T)
def pRest (T : St) (S : Sh) (r : Nat) : Bool := !m_pM T (m_days T S r) (m_row T S r) (2 * t_g T)
def m_rounds (T : St) (S : Sh) : Nat := match m_fst (pRest T S) 59 with
  | none => 60
  | some r => r + 1
/-! ===== WHICH ===== -/
def m_wh (T : St) (k : Nat) (B : Nat → Int32) : Nat → Bool
  | 0 => true
  | i + 1 => m_wh T k B i && decide (ab_max 0 (m_left T k (B (i + 1))) = B (i + 2))
/-- by a tape of n bytes B -/
def a_which (T : St) (n : Nat) (B : Nat → Int32) : Int32 := if 3 ≤ n ∧ n ≤ 31 then match nd 2 (B 0) with
  | none => -1
  | some s => m_bits (fun g => m_wh T (2 * g + s) B (n - 2)) id (t_g T)
  else -1
/-! ===== DEEDS ===== -/
def m_why (d : Nat) (S : Sh) (k : Nat) (n : Int32) : Int32 := match d with
  | 1 => if h_h S k < n then 1 else if 999 < h_s S k + n then 2 else 0
  | 3 => if m_alive S k = true then 0 else 1
  | _ => if h_s S k < n then 1 else 0
def m_do (d : Nat) (S : Sh) (k : Nat) (n : Int32) : Sh := match d with
  | 0 => (up1 (h_s S) k (h_s S k + -n), up1 (h_h S) k (h_h S k + n), S.2.2)
  | 1 => (up1 (h_s S) k (h_s S k + n), up1 (h_h S) k (h_h S k - n), S.2.2)
  | 2 => (up1 (h_s S) k (h_s S k + -n), S.2)
  | _ => (h_s S, h_h S, h_u S, h_c S, up1 (h_a S) k (-1), S.2.2.2.2.2)
def m_try (d : Nat) (S : Sh) (k : Nat) (n : Int32) : Sh := if m_why d S k n = 0 then m_do d S k n else S
/-! ===== DRAWS ===== -/
def m_nx (x : Int32) : Int32 := x * 1103515245 + 12345
def m_ush (x : Int32) : Int32 := (x.toUInt32 >>> ((8 : Int32).toUInt32 &&& Int32.toUInt32 31)).toInt32
def dr (x : Int32) (n : Nat) : Nat := (m_ush x).toInt.toNat % n
theorem ush_0 (x : Int32) : 0 ≤ (m_ush x).toInt := by
  unfold m_ush
  have h : (x.toUInt32 >>> ((8 : Int32).toUInt32 &&& Int32.toUInt32 31)).toNat < 2147483648 := by
    rw [UInt32.toNat_shiftRight]
    have e : ((8 : Int32).toUInt32 &&& Int32.toUInt32 31).toNat % 32 = 8 := by decide
    rw [e, Nat.shiftRight_eq_div_pow]
    have := x.toUInt32.toNat_lt
    omega
  have h2 : (x.toUInt32 >>> ((8 : Int32).toUInt32 &&& Int32.toUInt32 31)).toInt32.toInt = ((x.toUInt32 >>> ((8 : Int32).toUInt32 &&& Int32.toUInt32 31)).toNat : Int) := by
    show BitVec.toInt _ = _
    exact BitVec.toInt_eq_toNat_of_lt (by show 2 * (x.toUInt32 >>> ((8 : Int32).toUInt32 &&& Int32.toUInt32 31)).toNat < 2 ^ 32; omega)
  rw [h2]
  omega
theorem dr_rem {x : Int32} {n : Nat} (hn : 0 < n) (h1 : n < 1000) : m_ush x - m_ush x / Int32.ofNat n * Int32.ofNat n = Int32.ofNat (dr x n) := by
  have h0 := ush_0 x
  have hu := Int32.toInt_lt (m_ush x)
  have e : (Int32.ofNat n).toInt = n := i_toInt (by omega)
  have hm : (m_ush x).toInt.toNat % n < n := Nat.mod_lt _ hn
  rw [← Int32.toInt_inj, Int32.toInt_sub, Int32.toInt_mul, Int32.toInt_div, e]
  unfold dr
  rw [i_toInt (by omega)]
  have q : (m_ush x).toInt.tdiv n = ((m_ush x).toInt.toNat / n : Nat) := by
    rw [Int.tdiv_eq_ediv_of_nonneg h0]
    have : (m_ush x).toInt = ((m_ush x).toInt.toNat : Int) := by omega
    rw [this]
    rfl
  rw [q]
  have hd : (m_ush x).toInt.toNat / n * n ≤ (m_ush x).toInt.toNat := Nat.div_mul_le_self _ _
  have hd2 : (m_ush x).toInt.toNat / n ≤ (m_ush x).toInt.toNat := Nat.div_le_self _ _
  have hda := Nat.div_add_mod' (m_ush x).toInt.toNat n
  clear q hm
  generalize (m_ush x).toInt.toNat % n = r at *
  generalize (m_ush x).toInt.toNat / n = q at *
  have b1 : Int.bmod ((q : Nat) : Int) (2 ^ 32) = ((q : Nat) : Int) := Int.bmod_eq_of_le (by omega) (by omega)
  rw [b1]
  have hp : ((q : Nat) : Int) * (n : Int) = ((q * n : Nat) : Int) := by rw [Int.natCast_mul]
  rw [hp]
  generalize q * n = p at *
  have b2 : Int.bmod ((p : Nat) : Int) (2 ^ 32) = ((p : Nat) : Int) := Int.bmod_eq_of_le (by omega) (by omega)
  rw [b2]
  have hs : (m_ush x).toInt - ((p : Nat) : Int) = ((r : Nat) : Int) := by omega
  rw [hs]
  exact Int.bmod_eq_of_le (by omega) (by omega)
/-- what is drawn ahead of a DAY: the state, the seed behind it -/
def m_dDs (T : St) (S : Sh) (x : Int32) : Sh := if dr (m_nx x) 6 < 3 then m_try (dr (m_nx x) 6) S (2 * dr (m_nx (m_nx x)) (t_g T) + dr (m_nx (m_nx (m_nx x))) 2) (Int32.ofNat (dr (m_nx (m_nx (m_nx (m_nx x)))) 20 + 1)) else S
def m_dDx (T : St) (S : Sh) (x : Int32) : Int32 := if dr (m_nx x) 6 < 3 then m_nx (m_nx (m_nx (m_nx x))) else m_nx x
def m_dXs (T : St) (S : Sh) (x : Int32) : Sh := if dr (m_nx x) 90 = 0 ∧ 0 < t_m T then m_try 3 S (dr (m_nx (m_nx x)) (t_m T)) 0 else S
def m_dXx (T : St) (S : Sh) (x : Int32) : Int32 := if dr (m_nx x) 90 = 0 ∧ 0 < t_m T then m_nx (m_nx x) else m_nx x
def m_d1 (T : St) (S : Sh) (x : Int32) : Sh := m_day T (m_dXs T (m_dDs T S x) (m_dDx T S x))
def m_d2 (T : St) (S : Sh) (x : Int32) : Int32 := m_dXx T (m_dDs T S x) (m_dDx T S x)
def m_drawn (T : St) (q : Sh × Int32) : Nat → Sh × Int32
  | 0 => q
  | n + 1 => if h_d (m_drawn T q n).1 < 400 then (m_d1 T (m_drawn T q n).1 (m_drawn T q n).2, m_d2 T (m_drawn T q n).1 (m_drawn T q n).2) else m_drawn T q n
theorem wh_t {T : St} {j : Nat} {B : Nat → Int32} {n : Nat} (h : m_wh T j B n = true) (c : ab_max 0 (m_left T j (B (n + 1))) = B (n + 2)) : m_wh T j B (n + 1) = true := by
  show (_ && _) = true
  rw [h, Bool.true_and]
  exact decide_eq_true c
theorem wh_f {T : St} {j : Nat} {B : Nat → Int32} {i : Nat} (c : ¬ ab_max 0 (m_left T j (B (i + 1))) = B (i + 2)) : ∀ d, m_wh T j B (i + 1 + d) = false
  | 0 => by
    show (_ && _) = false
    rw [decide_eq_false c, Bool.and_false]
  | d + 1 => by
    show (m_wh T j B (i + 1 + d) && _) = false
    rw [wh_f c d, Bool.false_and]
theorem wh_z {T : St} {j : Nat} {B : Nat → Int32} {i n : Nat} (c : ¬ ab_max 0 (m_left T j (B (i + 1))) = B (i + 2)) (h : i < n) : m_wh T j B n = false := by
  have e := wh_f (T := T) (j := j) c (n - (i + 1))
  rw [show i + 1 + (n - (i + 1)) = n by omega] at e
  exact e
theorem i_subN {a b : Nat} (h : b ≤ a) : Int32.ofNat a - Int32.ofNat b = Int32.ofNat (a - b) := by
  apply Int32.toBitVec_inj.mp
  show BitVec.ofNat 32 a - BitVec.ofNat 32 b = BitVec.ofNat 32 (a - b)
  apply BitVec.eq_of_toNat_eq
  simp only [BitVec.toNat_sub, BitVec.toNat_ofNat]
  omega
theorem days_1 {F : FW} {p m k : Nat} {T : St} {S : Sh} (h : SHR F p m (m_days T (m_days T S k) 1)) : SHR F p m (m_days T S (k + 1)) := h
theorem rounds_r {T : St} {S : Sh} {r : Nat} (h : m_fst (pRest T S) r = none) (c : pRest T S r = true) (hr : r < 59) : m_rounds T S = r + 1 := by
  unfold m_rounds
  rw [m_fst_e h c hr]
theorem rounds_60 {T : St} {S : Sh} (h : m_fst (pRest T S) 59 = none) : m_rounds T S = 60 := by
  unfold m_rounds
  rw [h]
theorem h_d_do {d : Nat} {S : Sh} {k : Nat} {n : Int32} : h_d (m_do d S k n) = h_d S := by
  unfold m_do
  split <;> rfl
theorem h_d_try {d : Nat} {S : Sh} {k : Nat} {n : Int32} : h_d (m_try d S k n) = h_d S := by
  unfold m_try
  by_cases c : m_why d S k n = 0
  · rw [if_pos c]
    exact h_d_do
  · rw [if_neg c]
theorem h_d_drawD {T : St} {S : Sh} {x : Int32} : h_d (m_dDs T S x) = h_d S := by
  unfold m_dDs
  by_cases c : dr (m_nx x) 6 < 3
  · rw [if_pos c]
    exact h_d_try
  · rw [if_neg c]
theorem h_d_drawX {T : St} {S : Sh} {x : Int32} : h_d (m_dXs T S x) = h_d S := by
  unfold m_dXs
  by_cases c : dr (m_nx x) 90 = 0 ∧ 0 < t_m T
  · rw [if_pos c]
    exact h_d_try
  · rw [if_neg c]
theorem drawn_x {T : St} {q : Sh × Int32} {n : Nat} (h : ¬ h_d (m_drawn T q n).1 < 400) : ∀ k, m_drawn T q (n + k) = m_drawn T q n
  | 0 => rfl
  | k + 1 => by
    have e := drawn_x h k
    show (if h_d (m_drawn T q (n + k)).1 < 400 then _ else m_drawn T q (n + k)) = _
    rw [e, if_neg h]
theorem drawn_e {T : St} {q : Sh × Int32} {k n : Nat} (hk : k ≤ n) (h : ¬ h_d (m_drawn T q k).1 < 400) : m_drawn T q n = m_drawn T q k := by
  have e := drawn_x h (n - k)
  rw [show k + (n - k) = n by omega] at e
  exact e
def m_cnt (f : Nat → Bool) : Nat → Int32
  | 0 => 0
  | k + 1 => if f k = true then m_cnt f k + 1 else m_cnt f k
def a_odds (T : St) (S : Sh) (x y z : Int32) : Int32 := match nd (t_m T) x with
  | none => -1
  | some m => match ndr 1 30 y with
    | none => -1
    | some n => if t_g T = 0 then -1 else m_cnt (fun i => decide (h_t S m < h_t (m_drawn T (S, z + Int32.ofNat i) 20).1 m)) n
theorem days_one {T : St} {S : Sh} (h : h_d S < 400) : m_days T S 1 = m_day T S := if_pos h
theorem drawn_s {T : St} {q : Sh × Int32} {n : Nat} (h : h_d (m_drawn T q n).1 < 400) : m_drawn T q (n + 1) = (m_d1 T (m_drawn T q n).1 (m_drawn T q n).2, m_d2 T (m_drawn T q n).1 (m_drawn T q n).2) := if_pos h
theorem drawn_1 {T : St} {q : Sh × Int32} {n : Nat} (h : h_d (m_drawn T q n).1 < 400) : (m_drawn T q (n + 1)).1 = m_d1 T (m_drawn T q n).1 (m_drawn T q n).2 := by rw [drawn_s h]
theorem drawn_2 {T : St} {q : Sh × Int32} {n : Nat} (h : h_d (m_drawn T q n).1 < 400) : (m_drawn T q (n + 1)).2 = m_d2 T (m_drawn T q n).1 (m_drawn T q n).2 := by rw [drawn_s h]
