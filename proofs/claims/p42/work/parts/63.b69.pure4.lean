/-! ===== bytes, and what WHICH wants ===== -/
theorem oct_b (x : Int32) : 0 ≤ (x &&& 255).toInt ∧ (x &&& 255).toInt ≤ 255 := by
  have h : (x &&& 255).toBitVec.toNat ≤ 255 := by
    show (x.toBitVec &&& 255#32).toNat ≤ 255
    rw [BitVec.toNat_and]
    exact Nat.and_le_right
  have e : (x &&& 255).toInt = ((x &&& 255).toBitVec.toNat : Int) := BitVec.toInt_eq_toNat_of_lt (by omega)
  omega
theorem oct_2 {x : Int32} (h : x &&& 255 ≤ 1) : ∃ s, nd 2 (x &&& 255) = some s ∧ s < 2 ∧ x &&& 255 = Int32.ofNat s := by
  have b := oct_b x
  rw [Int32.le_iff_toInt_le, i_1] at h
  refine nd_t ?_
  unfold nd
  rw [if_pos ⟨b.1, by show _ < (2 : Int); omega⟩]
  rfl
theorem oct_n {x : Int32} (h : ¬ x &&& 255 ≤ 1) : nd 2 (x &&& 255) = none := by
  rw [Int32.le_iff_toInt_le, i_1] at h
  unfold nd
  exact if_neg (fun c => h (by have := c.2; omega))
theorem ndr_y {a b n : Nat} (hn : n < 2147483648) (h : (ndr a b (Int32.ofNat n)).isSome = true) : a ≤ n ∧ n ≤ b := by
  unfold ndr at h
  rw [i_toInt hn] at h
  split at h
  · omega
  · cases h
theorem ndr_z {a b n : Nat} (hn : n < 2147483648) (h : (ndr a b (Int32.ofNat n)).isSome = false) : ¬ (a ≤ n ∧ n ≤ b) := by
  unfold ndr at h
  rw [i_toInt hn] at h
  split at h
  · cases h
  · omega
theorem mx_ge {y : Int32} (h : 0 ≤ y) : ab_max 0 y = y := by
  rw [Int32.le_iff_toInt_le] at h
  rcases mx_c 0 y with ⟨a, e⟩ | ⟨a, e⟩
  · exact e
  · rw [e]
    exact (Int32.toInt_inj.mp (by omega))
theorem mx_lt {y : Int32} (h : ¬ 0 ≤ y) : ab_max 0 y = 0 := by
  rw [Int32.le_iff_toInt_le] at h
  rcases mx_c 0 y with ⟨a, e⟩ | ⟨a, e⟩
  · omega
  · exact e
theorem left_less (T : St) (k : Nat) (x : Int32) : m_less 999 (x + t_a T (36 + k)) - t_a T (24 + k) = m_left T k x := by
  unfold m_left
  rw [less_min]
theorem wh_s {T : St} {j i : Nat} {B : Nat → Int32} (hi : 2 ≤ i) : m_wh T j B (i + 1 - 2) = (m_wh T j B (i - 2) && decide (ab_max 0 (m_left T j (B (i - 1))) = B i)) := by
  rw [show i + 1 - 2 = i - 2 + 1 by omega]
  show (m_wh T j B (i - 2) && decide (ab_max 0 (m_left T j (B (i - 2 + 1))) = B (i - 2 + 2))) = _
  rw [show i - 2 + 1 = i - 1 by omega, show i - 2 + 2 = i by omega]
theorem wh_congr {T : St} {j : Nat} {B B' : Nat → Int32} : ∀ {n : Nat}, (∀ q, q < n + 2 → B q = B' q) → m_wh T j B n = m_wh T j B' n
  | 0, _ => rfl
  | n + 1, h => by
    show (m_wh T j B n && decide (ab_max 0 (m_left T j (B (n + 1))) = B (n + 2))) = (m_wh T j B' n && decide (ab_max 0 (m_left T j (B' (n + 1))) = B' (n + 2)))
    rw [wh_congr (n := n) (fun q hq => h q (by omega)), h (n + 1) (by omega), h (n + 2) (by omega)]
theorem which_congr {T : St} {n : Nat} {B B' : Nat → Int32} (h : ∀ q, q < n → B q = B' q) : a_which T n B = a_which T n B' := by
  unfold a_which
  by_cases c : 3 ≤ n ∧ n ≤ 31
  · rw [if_pos c, if_pos c, h 0 (by omega)]
    rw [show (fun s => m_bits (fun g => m_wh T (2 * g + s) B (n - 2)) id (t_g T)) = fun s => m_bits (fun g => m_wh T (2 * g + s) B' (n - 2)) id (t_g T) from funext fun s => congrArg (fun f => m_bits f id (t_g T)) (funext fun g => wh_congr (fun q hq => h q (by omega)))]
  · rw [if_neg c, if_neg c]
theorem i_remN {a b : Nat} (ha : a < 2147483648) (hb : b < 2147483648) (h0 : 0 < b) : Int32.ofNat a - Int32.ofNat a / Int32.ofNat b * Int32.ofNat b = Int32.ofNat (a % b) := by
  have e1 : (Int32.ofNat a).toInt = a := i_toInt ha
  have e2 : (Int32.ofNat b).toInt = b := i_toInt hb
  have hm : a % b < b := Nat.mod_lt _ h0
  have hl : a % b ≤ a := Nat.mod_le _ _
  rw [← Int32.toInt_inj, Int32.toInt_sub, Int32.toInt_mul, Int32.toInt_div, e1, e2, i_toInt (by omega)]
  have q : ((a : Int).tdiv b) = ((a / b : Nat) : Int) := by
    rw [Int.tdiv_eq_ediv_of_nonneg (by omega)]
    rfl
  rw [q]
  have hd : a / b * b ≤ a := Nat.div_mul_le_self _ _
  have hd2 : a / b ≤ a := Nat.div_le_self _ _
  have hda := Nat.div_add_mod' a b
  clear q hm
  generalize a % b = r at *
  generalize a / b = q at *
  have b1 : Int.bmod ((q : Nat) : Int) (2 ^ 32) = ((q : Nat) : Int) := Int.bmod_eq_of_le (by omega) (by omega)
  rw [b1]
  have hp : ((q : Nat) : Int) * (b : Int) = ((q * b : Nat) : Int) := by rw [Int.natCast_mul]
  rw [hp]
  generalize q * b = p at *
  have b2 : Int.bmod ((p : Nat) : Int) (2 ^ 32) = ((p : Nat) : Int) := Int.bmod_eq_of_le (by omega) (by omega)
  rw [b2]
  have hs : (a : Int) - ((p : Nat) : Int) = ((r : Nat) : Int) := by omega
  rw [hs]
  exact Int.bmod_eq_of_le (by omega) (by omega)
theorem RT.lay {F G K : FW} (h : RT F G) (x : FX (fun q => q = 79) G K) : RT F K :=
  ⟨h.1.tr (x.wd fun q (c : q = 79) => Or.inr (Or.inr (Or.inr c))), fun k hk => (x.1 78 k (by decide)).trans (h.2.1 k hk), fun k hk => (x.1 71 k (by decide)).trans (h.2.2.1 k hk), fun k h1 h2 h3 => (x.1 69 k (by decide)).trans (h.2.2.2 k h1 h2 h3)⟩
def a_logged (f : Nat → Int32) (w : Int32) : Int32 := match nd 4 w with
  | none => -1
  | some k => f k
theorem a_logged_n {f : Nat → Int32} {w : Int32} (h : nd 4 w = none) : a_logged f w = -1 := by
  unfold a_logged
  rw [h]
theorem a_logged_y {f : Nat → Int32} {w : Int32} {k : Nat} (h : nd 4 w = some k) : a_logged f w = f k := by
  unfold a_logged
  rw [h]
theorem nd_in2 {n m : Nat} {x : Int32} (hn : n = m + 1) (hm : n < 2147483648) : (decide (0 ≤ x) && decide (x ≤ Int32.ofNat m)) = (nd n x).isSome := by
  subst hn
  rw [← nd_in hm, show Int32.ofNat (m + 1) - 1 = Int32.ofNat m from i_subN (a := m + 1) (b := 1) (by omega)]
theorem price_z {p : Nat} {v x : Int32} (hp6 : p ≤ 6) (h : v = Int32.ofNat p ∨ (p = 0 ∧ v = -1)) : (decide (0 ≤ x) && decide (x ≤ v - 1)) = (nd p x).isSome := by
  rcases h with rfl | ⟨rfl, rfl⟩
  · exact nd_in (by omega)
  · have e : nd 0 x = none := by
      unfold nd
      exact if_neg (fun c => by have := c.2; omega)
    rw [e]
    by_cases c : 0 ≤ x
    · rw [decide_eq_true c, Bool.true_and]
      refine decide_eq_false (fun d => ?_)
      rw [Int32.le_iff_toInt_le] at c d
      rw [i_0] at c
      have e2 : ((-1 : Int32) - 1).toInt = -2 := rfl
      omega
    · rw [decide_eq_false c]
      rfl
theorem a_logged_0 {f : Nat → Int32} {w : Int32} (h : ∀ k, k < 4 → f k = -1) : a_logged f w = -1 := by
  unfold a_logged
  split
  · rfl
  · rename_i k e
    exact h k (nd_some e).1
theorem nd_54 {w : Int32} (h : nd 5 w = none) : ¬ w = 4 := fun c => by
  rw [c] at h
  exact absurd h (by decide)
theorem nd_53 {w : Int32} (h : nd 5 w = none) : nd 4 w = none := by
  cases e : nd 4 w with
  | none => rfl
  | some k =>
    obtain ⟨a, rfl⟩ := nd_some e
    rw [nd_of (by omega) (by decide)] at h
    cases h
