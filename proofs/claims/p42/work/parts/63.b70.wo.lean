/-! ===== WITHOUT ===== -/
def oN (q : Option Nat) : Int32 := match q with
  | none => -1
  | some k => Int32.ofNat k
theorem m_fst_lt {P : Nat → Bool} {j : Nat} : ∀ {n : Nat}, m_fst P n = some j → j < n ∧ P j = true
  | 0, h => by cases h
  | n + 1, h => by
    unfold m_fst at h
    split at h
    · rename_i i hi
      obtain rfl := Option.some.inj h
      have := m_fst_lt hi
      exact ⟨by omega, this.2⟩
    · split at h
      · rename_i c
        obtain rfl := Option.some.inj h
        exact ⟨Nat.lt_succ_self _, c⟩
      · cases h
theorem oN_n {P : Nat → Bool} {v : Nat} (hv : v < 2147483648) (h : oN (m_fst P v) < 0) : m_fst P v = none := by
  cases e : m_fst P v with
  | none => rfl
  | some j =>
    have b := (m_fst_lt e).1
    rw [e] at h
    have e1 : oN (some j) = Int32.ofNat j := rfl
    rw [e1, Int32.lt_iff_toInt_lt, i_toInt (by omega), i_0] at h
    omega
theorem m_fst_up {P : Nat → Bool} {k i : Nat} (e : m_fst P k = some i) : ∀ j, m_fst P (k + j) = some i
  | 0 => e
  | j + 1 => by
    have ih := m_fst_up e j
    show m_fst P (k + j + 1) = some i
    unfold m_fst
    rw [ih]
theorem oN_s {P : Nat → Bool} {k n : Nat} (hk : k ≤ n) (h : ¬ oN (m_fst P k) < 0) : oN (m_fst P n) = oN (m_fst P k) := by
  cases e : m_fst P k with
  | none =>
    rw [e] at h
    exact absurd (show (-1 : Int32) < 0 by decide) h
  | some i =>
    have t := m_fst_up e (n - k)
    rw [show k + (n - k) = n by omega] at t
    rw [t]
theorem nat_of {x : Int32} (h : 0 ≤ x.toInt) : ∃ n, x.toInt.toNat = n ∧ x = Int32.ofNat n ∧ n < 2147483648 := by
  have := Int32.toInt_lt x
  refine ⟨_, rfl, Int32.toInt_inj.mp ?_, by omega⟩
  rw [i_toInt (by omega)]
  omega
/-- so much wasted now -/
def m_ws (S : Sh) (k v : Nat) : Sh := (up1 (h_s S) k (h_s S k - Int32.ofNat v), S.2)
theorem INV_ws {T : St} {S : Sh} {k v : Nat} (h : INV T S) (hk : k < 12) (hv : (v : Int) ≤ (h_s S k).toInt) : INV T (m_ws S k v) := by
  have sk := h.sb k hk
  have en : (Int32.ofNat v).toInt = v := i_toInt (by omega)
  have e1 : (h_s S k - Int32.ofNat v).toInt = (h_s S k).toInt - v := by rw [i_subI (by omega) (by omega), en]
  refine ⟨fun j hj => ?_, fun j hj => ?_, h.ab, h.tr, h.cb, h.db⟩
  · show 0 ≤ (up1 (h_s S) k (h_s S k - Int32.ofNat v) j).toInt ∧ (up1 (h_s S) k (h_s S k - Int32.ofNat v) j).toInt ≤ 999
    by_cases e : j = k
    · rw [e, up1_eq, e1]
      omega
    · rw [up1_ne e]
      exact h.sb j hj
  · show 0 ≤ (h_h S j).toInt ∧ (up1 (h_s S) k (h_s S k - Int32.ofNat v) j).toInt + (h_h S j).toInt ≤ 250 + 290 * (h_d S : Int)
    have uj := h.hb j hj
    by_cases e : j = k
    · rw [e, up1_eq, e1]
      rw [e] at uj
      omega
    · rw [up1_ne e]
      exact uj
def pWo (T : St) (S : Sh) (g s n d v : Nat) : Bool := !decide (h_c (m_days T (m_ws S (2 * g + s) v) d) (2 * g + s) - h_c S (2 * g + s) < Int32.ofNat n)
def a_without (T : St) (S : Sh) (x y z w : Int32) : Int32 := aGS T x y fun g s => match ndr 1 250 z with
  | none => -1
  | some n => match ndr 1 60 w with
    | none => -1
    | some d => oN (m_fst (pWo T S g s n d) ((h_s S (2 * g + s)).toInt.toNat + 1))
/-! the class's way: the room that there will be, the two stocks day by day -/
def w_dn (S : Sh) (d : Nat) : Nat := if d ≤ 400 - h_d S then d else 400 - h_d S
def w_rm (T : St) (S : Sh) (g k : Nat) : Int32 := m_room T (m_days T S k) - m_pg T (m_days T S k) g
def w_rt (T : St) (S : Sh) (g s : Nat) : Nat → Int32
  | 0 => 0
  | k + 1 => if (h_d S + k) % 2 = s then w_rt T S g s k else w_rt T S g s k + w_rm T S g k
def w_s (T : St) (S : Sh) (g s w : Nat) : Nat → Int32 × Int32 × Int32
  | 0 => (h_s S (2 * g + s) - Int32.ofNat w, h_s S (2 * g + (1 - s)), 0)
  | k + 1 => if (h_d S + k) % 2 = s then
      (ab_max 0 (m_left T (2 * g + s) ((w_s T S g s w k).1 - m_moved (w_s T S g s w k).1 (t_a T (1 * 12 + (2 * g + (1 - s))) - (w_s T S g s w k).2.1) (w_rm T S g k))),
       ab_max 0 (m_left T (2 * g + (1 - s)) ((w_s T S g s w k).2.1 + m_moved (w_s T S g s w k).1 (t_a T (1 * 12 + (2 * g + (1 - s))) - (w_s T S g s w k).2.1) (w_rm T S g k))), (w_s T S g s w k).2.2)
    else
      (ab_max 0 (m_left T (2 * g + s) ((w_s T S g s w k).1 + m_moved (w_s T S g s w k).2.1 (t_a T (1 * 12 + (2 * g + s)) - (w_s T S g s w k).1) (w_rm T S g k))),
       ab_max 0 (m_left T (2 * g + (1 - s)) ((w_s T S g s w k).2.1 - m_moved (w_s T S g s w k).2.1 (t_a T (1 * 12 + (2 * g + s)) - (w_s T S g s w k).1) (w_rm T S g k))), (w_s T S g s w k).2.2 + m_moved (w_s T S g s w k).2.1 (t_a T (1 * 12 + (2 * g + s)) - (w_s T S g s w k).1) (w_rm T S g k))
theorem w_s_t {T : St} {S : Sh} {g s w k : Nat} (c : (h_d S + k) % 2 = s) : w_s T S g s w (k + 1) = (ab_max 0 (m_left T (2 * g + s) ((w_s T S g s w k).1 - m_moved (w_s T S g s w k).1 (t_a T (1 * 12 + (2 * g + (1 - s))) - (w_s T S g s w k).2.1) (w_rm T S g k))),
       ab_max 0 (m_left T (2 * g + (1 - s)) ((w_s T S g s w k).2.1 + m_moved (w_s T S g s w k).1 (t_a T (1 * 12 + (2 * g + (1 - s))) - (w_s T S g s w k).2.1) (w_rm T S g k))), (w_s T S g s w k).2.2) := if_pos c
theorem w_s_f {T : St} {S : Sh} {g s w k : Nat} (c : ¬ (h_d S + k) % 2 = s) : w_s T S g s w (k + 1) = (ab_max 0 (m_left T (2 * g + s) ((w_s T S g s w k).1 + m_moved (w_s T S g s w k).2.1 (t_a T (1 * 12 + (2 * g + s)) - (w_s T S g s w k).1) (w_rm T S g k))),
       ab_max 0 (m_left T (2 * g + (1 - s)) ((w_s T S g s w k).2.1 - m_moved (w_s T S g s w k).2.1 (t_a T (1 * 12 + (2 * g + s)) - (w_s T S g s w k).1) (w_rm T S g k))), (w_s T S g s w k).2.2 + m_moved (w_s T S g s w k).2.1 (t_a T (1 * 12 + (2 * g + s)) - (w_s T S g s w k).1) (w_rm T S g k)) := if_neg c
def pWc (T : St) (S : Sh) (g s n d v : Nat) : Bool := !decide ((w_s T S g s v (w_dn S d)).2.2 < Int32.ofNat n)
def c_without (T : St) (S : Sh) (x y z w : Int32) : Int32 := aGS T x y fun g s => match ndr 1 250 z with
  | none => -1
  | some n => match ndr 1 60 w with
    | none => -1
    | some d => if w_rt T S g s (w_dn S d) < Int32.ofNat n then -1 else oN (m_fst (pWc T S g s n d) ((h_s S (2 * g + s)).toInt.toNat + 1))
