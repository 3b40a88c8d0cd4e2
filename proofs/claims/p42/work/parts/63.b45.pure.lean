/-! ===== whole numbers in the model ===== -/
theorem i_subI {a b : Int32} (h1 : -2147483648 ≤ a.toInt - b.toInt) (h2 : a.toInt - b.toInt ≤ 2147483647) : (a - b).toInt = a.toInt - b.toInt := by
  rw [Int32.toInt_sub]
  exact Int.bmod_eq_of_le (by omega) (by omega)
theorem i_addI {a b : Int32} (h1 : -2147483648 ≤ a.toInt + b.toInt) (h2 : a.toInt + b.toInt ≤ 2147483647) : (a + b).toInt = a.toInt + b.toInt := by
  rw [Int32.toInt_add]
  exact Int.bmod_eq_of_le (by omega) (by omega)
theorem mx_c (a b : Int32) : (a.toInt < b.toInt ∧ ab_max a b = b) ∨ (b.toInt ≤ a.toInt ∧ ab_max a b = a) := by
  unfold ab_max
  by_cases h : a < b
  · rw [if_pos h]
    exact Or.inl ⟨Int32.lt_iff_toInt_lt.mp h, rfl⟩
  · rw [if_neg h]
    rw [Int32.lt_iff_toInt_lt] at h
    exact Or.inr ⟨by omega, rfl⟩
theorem mn_c (a b : Int32) : (b.toInt < a.toInt ∧ ab_min a b = b) ∨ (a.toInt ≤ b.toInt ∧ ab_min a b = a) := by
  unfold ab_min
  by_cases h : b < a
  · rw [if_pos h]
    exact Or.inl ⟨Int32.lt_iff_toInt_lt.mp h, rfl⟩
  · rw [if_neg h]
    rw [Int32.lt_iff_toInt_lt] at h
    exact Or.inr ⟨by omega, rfl⟩
theorem ls_c (a b : Int32) : (b.toInt ≤ a.toInt ∧ m_less a b = b) ∨ (a.toInt < b.toInt ∧ m_less a b = a) := by
  unfold m_less
  by_cases h : b ≤ a
  · rw [if_pos h]
    exact Or.inl ⟨Int32.le_iff_toInt_le.mp h, rfl⟩
  · rw [if_neg h]
    rw [Int32.le_iff_toInt_le] at h
    exact Or.inr ⟨by omega, rfl⟩
theorem i_0 : (0 : Int32).toInt = 0 := rfl
theorem i_999 : (999 : Int32).toInt = 999 := rfl
theorem i_2 : (2 : Int32).toInt = 2 := rfl
/-- amounts and load as they can be told; stocks as they can be -/
def TBB (T : St) : Prop := 0 ≤ (t_l T).toInt ∧ (t_l T).toInt ≤ 40 ∧ ∀ k, k < 48 → 0 ≤ (t_a T k).toInt ∧ (t_a T k).toInt ≤ 250
def SB (S : Sh) : Prop := ∀ k, k < 12 → 0 ≤ (h_s S k).toInt ∧ (h_s S k).toInt ≤ 999
theorem moved_b {s l r : Int32} (hs : 0 ≤ s.toInt) (hl : 0 ≤ l.toInt) (hr : 0 ≤ r.toInt) : 0 ≤ (m_moved s l r).toInt ∧ (m_moved s l r).toInt ≤ s.toInt ∧ (m_moved s l r).toInt ≤ l.toInt ∧ (m_moved s l r).toInt ≤ r.toInt := by
  unfold m_moved
  rcases mn_c l r with ⟨a, e⟩ | ⟨a, e⟩ <;> rw [e] <;> rcases mn_c s _ with ⟨a2, e2⟩ | ⟨a2, e2⟩ <;> rw [e2] <;> rcases mx_c 0 _ with ⟨a3, e3⟩ | ⟨a3, e3⟩ <;> rw [e3] <;> rw [i_0] at a3 <;> (try rw [i_0]) <;> omega
theorem moved_eq {s l r : Int32} (hs : 0 ≤ s.toInt) (hl : 0 ≤ l.toInt) (hr : 0 ≤ r.toInt) : m_less r (m_less s l) = m_moved s l r := by
  unfold m_moved
  apply Int32.toInt_inj.mp
  rcases ls_c s l with ⟨b, f⟩ | ⟨b, f⟩ <;> rw [f] <;> rcases ls_c r _ with ⟨b2, f2⟩ | ⟨b2, f2⟩ <;> rw [f2] <;> rcases mn_c l r with ⟨a, e⟩ | ⟨a, e⟩ <;> rw [e] <;> rcases mn_c s _ with ⟨a2, e2⟩ | ⟨a2, e2⟩ <;> rw [e2] <;> rcases mx_c 0 _ with ⟨a3, e3⟩ | ⟨a3, e3⟩ <;> rw [e3] <;> rw [i_0] at a3 <;> (try rw [i_0]) <;> omega
theorem lack_b {T : St} {S : Sh} (hT : TBB T) (hS : SB S) {k : Nat} (hk : k < 12) : 0 ≤ (m_lack T S k).toInt ∧ ((m_lack T S k).toInt = 0 ∨ (h_s S k).toInt + (m_lack T S k).toInt ≤ 250) := by
  have h1 := hT.2.2 (1 * 12 + k) (by omega)
  have h2 := hS k hk
  have h3 := i_subI (a := t_a T (1 * 12 + k)) (b := h_s S k) (by omega) (by omega)
  unfold m_lack
  rcases mx_c 0 (t_a T (1 * 12 + k) - h_s S k) with ⟨a, e⟩ | ⟨a, e⟩ <;> rw [e] <;> rw [i_0] at a <;> (try rw [i_0]) <;> omega
theorem lackr_eq {w s : Int32} : m_lackr w s = ab_max 0 (w - s) := by
  unfold m_lackr
  rcases mx_c 0 (w - s) with ⟨a, e⟩ | ⟨a, e⟩
  · rw [e, if_neg]
    rw [Int32.le_iff_toInt_le]
    rw [i_0] at a ⊢
    omega
  · rw [e]
    by_cases h : w - s ≤ 0
    · rw [if_pos h]
    · rw [Int32.le_iff_toInt_le] at h
      rw [i_0] at a h
      omega
theorem room_b {T : St} {S : Sh} (hT : TBB T) : 0 ≤ (m_room T S).toInt ∧ (m_room T S).toInt ≤ 40 := by
  unfold m_room
  by_cases h : h_d S < 400
  · rw [if_pos h]
    exact ⟨hT.1, hT.2.1⟩
  · rw [if_neg h]
    exact ⟨by decide, by decide⟩
theorem pm_b {T : St} {S : Sh} (hT : TBB T) : ∀ k, 0 ≤ (m_pm T S k).2.toInt ∧ (m_pm T S k).2.toInt ≤ (m_room T S).toInt
  | 0 => ⟨show (0 : Int) ≤ (0 : Int32).toInt by decide, (room_b hT).1⟩
  | k + 1 => by
    have ih := pm_b (S := S) hT k
    have hr := room_b (S := S) hT
    by_cases h : ¬ m_room T S - (m_pm T S k).2 < 2 ∧ h_a S k = Int32.ofNat (m_from S) ∧ m_bit (m_missed T S) k = true
    · rw [m_pm_t h.1 h.2.1 h.2.2]
      have h1 := h.1
      rw [Int32.lt_iff_toInt_lt, i_subI (by omega) (by omega), i_2] at h1
      have h2 := i_addI (a := (m_pm T S k).2) (b := 2) (by rw [i_2]; omega) (by rw [i_2]; omega)
      rw [i_2] at h2
      show 0 ≤ ((m_pm T S k).2 + 2).toInt ∧ ((m_pm T S k).2 + 2).toInt ≤ _
      omega
    · have e : m_pm T S (k + 1) = m_pm T S k := if_neg h
      rw [e]
      exact ih
theorem pg_b {T : St} {S : Sh} (hT : TBB T) (hS : SB S) : ∀ g, g ≤ 6 → 0 ≤ (m_pg T S g).toInt ∧ (m_pg T S g).toInt ≤ (m_room T S).toInt
  | 0, _ => pm_b hT _
  | g + 1, hg => by
    have ih := pg_b hT hS g (by omega)
    have hr := room_b (S := S) hT
    have b6 := m_from_lt S
    have h1 := i_subI (a := m_room T S) (b := m_pg T S g) (by omega) (by omega)
    have h2 := moved_b (s := h_s S (2 * g + m_from S)) (l := m_lack T S (2 * g + (1 - m_from S))) (r := m_room T S - m_pg T S g) (hS _ (by omega)).1 (lack_b hT hS (by omega)).1 (by omega)
    show 0 ≤ (m_pg T S g + m_moved _ _ _).toInt ∧ (m_pg T S g + m_moved _ _ _).toInt ≤ _
    rw [i_addI (by omega) (by omega)]
    omega
theorem fr_b {T : St} {S : Sh} (hT : TBB T) (hS : SB S) {g : Nat} (hg : g < 6) : 0 ≤ (m_fr T S g).toInt ∧ (m_fr T S g).toInt ≤ (h_s S (2 * g + m_from S)).toInt ∧ ((m_fr T S g).toInt = 0 ∨ (h_s S (2 * g + (1 - m_from S))).toInt + (m_fr T S g).toInt ≤ 250) := by
  have ih := pg_b hT hS g (by omega)
  have hr := room_b (S := S) hT
  have b6 := m_from_lt S
  have h1 := i_subI (a := m_room T S) (b := m_pg T S g) (by omega) (by omega)
  have h3 := lack_b hT hS (k := 2 * g + (1 - m_from S)) (by omega)
  have h2 := moved_b (s := h_s S (2 * g + m_from S)) (l := m_lack T S (2 * g + (1 - m_from S))) (r := m_room T S - m_pg T S g) (hS _ (by omega)).1 h3.1 (by omega)
  unfold m_fr
  omega
/-! ===== what the loops come to ===== -/
theorem cS_ge {T : St} {S : Sh} {j : Nat} : ∀ {g : Nat}, 2 * g ≤ j → m_cS T S g j = h_s S j
  | 0, _ => rfl
  | g + 1, h => by
    have b6 := m_from_lt S
    show up1 (up1 (m_cS T S g) _ _) _ _ j = _
    rw [up1_ne (by omega), up1_ne (by omega)]
    exact cS_ge (by omega)
theorem cC_ge {T : St} {S : Sh} {j : Nat} : ∀ {g : Nat}, 2 * g ≤ j → m_cC T S g j = h_c S j
  | 0, _ => rfl
  | g + 1, h => by
    have b6 := m_from_lt S
    show up1 (m_cC T S g) _ _ j = _
    rw [up1_ne (by omega)]
    exact cC_ge (by omega)
theorem cS_1 {T : St} {S : Sh} {k : Nat} : ∀ {g : Nat}, k < g → m_cS T S g (2 * k + m_from S) = h_s S (2 * k + m_from S) - m_fr T S k
  | g + 1, h => by
    have b6 := m_from_lt S
    show up1 (up1 (m_cS T S g) _ _) _ _ _ = _
    rw [up1_ne (by omega)]
    by_cases c : k = g
    · subst c
      rw [up1_eq, cS_ge (by omega)]
    · rw [up1_ne (by omega)]
      exact cS_1 (by omega)
theorem cS_2 {T : St} {S : Sh} {k : Nat} : ∀ {g : Nat}, k < g → m_cS T S g (2 * k + (1 - m_from S)) = h_s S (2 * k + (1 - m_from S)) + m_fr T S k
  | g + 1, h => by
    have b6 := m_from_lt S
    show up1 (up1 (m_cS T S g) _ _) _ _ _ = _
    by_cases c : k = g
    · subst c
      rw [up1_eq, cS_ge (by omega)]
    · rw [up1_ne (by omega), up1_ne (by omega)]
      exact cS_2 (by omega)
theorem cS_b {T : St} {S : Sh} (hT : TBB T) (hS : SB S) {g j : Nat} (hg : g ≤ 6) (hj : j < 12) : 0 ≤ (m_cS T S g j).toInt ∧ (m_cS T S g j).toInt ≤ 999 := by
  have b6 := m_from_lt S
  have hb := hS j hj
  by_cases c : 2 * g ≤ j
  · rw [cS_ge c]
    exact hb
  · have hf := fr_b hT hS (g := j / 2) (by omega)
    by_cases d : j = 2 * (j / 2) + m_from S
    · have e := cS_1 (T := T) (S := S) (k := j / 2) (g := g) (by omega)
      rw [← d] at e hf
      rw [e, i_subI (by omega) (by omega)]
      omega
    · have d2 : j = 2 * (j / 2) + (1 - m_from S) := by omega
      have e := cS_2 (T := T) (S := S) (k := j / 2) (g := g) (by omega)
      rw [← d2] at e
      have hf2 := hf.2.2
      rw [← d2] at hf2
      rw [e, i_addI (by omega) (by omega)]
      omega
theorem eS_ge {T : St} {S : Sh} {j : Nat} : ∀ {k : Nat}, k ≤ j → m_eS T S k j = h_s S j
  | 0, _ => rfl
  | k + 1, h => by
    show up1 (m_eS T S k) _ _ j = _
    rw [up1_ne (by omega)]
    exact eS_ge (by omega)
theorem eS_lt {T : St} {S : Sh} {j : Nat} : ∀ {k : Nat}, j < k → m_eS T S k j = ab_max 0 (m_left T j (h_s S j))
  | k + 1, h => by
    show up1 (m_eS T S k) _ _ j = _
    by_cases c : j = k
    · subst c
      rw [up1_eq, eS_ge (Nat.le_refl j)]
    · rw [up1_ne c]
      exact eS_lt (by omega)
theorem left_b {T : St} (hT : TBB T) {k : Nat} {x : Int32} (hk : k < 12) (h0 : 0 ≤ x.toInt) (h1 : x.toInt ≤ 999) : (m_left T k x).toInt = (ab_min 999 (x + t_a T (36 + k))).toInt - (t_a T (24 + k)).toInt ∧ 0 ≤ (ab_min 999 (x + t_a T (36 + k))).toInt ∧ (ab_min 999 (x + t_a T (36 + k))).toInt ≤ 999 := by
  have a := hT.2.2 (36 + k) (by omega)
  have b := hT.2.2 (24 + k) (by omega)
  have c := i_addI (a := x) (b := t_a T (36 + k)) (by omega) (by omega)
  have d : 0 ≤ (ab_min 999 (x + t_a T (36 + k))).toInt ∧ (ab_min 999 (x + t_a T (36 + k))).toInt ≤ 999 := by
    rcases mn_c 999 (x + t_a T (36 + k)) with ⟨q, e⟩ | ⟨q, e⟩ <;> rw [e] <;> rw [i_999] at q <;> (try rw [i_999]) <;> omega
  refine ⟨?_, d⟩
  unfold m_left
  exact i_subI (by omega) (by omega)
theorem eS_b {T : St} {S : Sh} (hT : TBB T) (hS : SB S) {k j : Nat} (hj : j < 12) : 0 ≤ (m_eS T S k j).toInt ∧ (m_eS T S k j).toInt ≤ 999 := by
  have hb := hS j hj
  by_cases c : k ≤ j
  · rw [eS_ge c]
    exact hb
  · rw [eS_lt (by omega)]
    have h := left_b hT hj hb.1 hb.2
    have b := hT.2.2 (24 + j) (by omega)
    rcases mx_c 0 (m_left T j (h_s S j)) with ⟨q, e⟩ | ⟨q, e⟩ <;> rw [e] <;> rw [i_0] at q <;> (try rw [i_0]) <;> omega
theorem SB_carry {T : St} {S : Sh} (hT : TBB T) (hS : SB S) (hg : t_g T ≤ 6) : SB (m_carry T S) := fun k hk => cS_b hT hS hg hk
theorem SB_eat {T : St} {S : Sh} (hT : TBB T) (hS : SB S) : SB (m_eat T S) := fun k hk => eS_b hT hS hk
theorem SB_day {T : St} {S : Sh} (hT : TBB T) (hS : SB S) (hg : t_g T ≤ 6) : SB (m_day T S) := fun k hk => SB_eat hT (SB_carry hT hS hg) k hk
theorem SB_days {T : St} {S : Sh} (hT : TBB T) (hS : SB S) (hg : t_g T ≤ 6) : ∀ n, SB (m_days T S n)
  | 0 => hS
  | n + 1 => by
    by_cases h : h_d (m_days T S n) < 400
    · rw [m_days_s h]
      exact SB_day hT (SB_days hT hS hg n) hg
    · rw [show m_days T S (n + 1) = m_days T S n from if_neg h]
      exact SB_days hT hS hg n
theorem up1_up1 {f : Nat → Int32} {i : Nat} {v w : Int32} : up1 (up1 f i v) i w = up1 f i w := funext fun j => by
  by_cases h : j = i
  · rw [h, up1_eq, up1_eq]
  · rw [up1_ne h, up1_ne h, up1_ne h]
theorem sum_lo {f : Nat → Int32} {k : Nat} {v : Int32} : ∀ {n : Nat}, n ≤ k → m_sum (up1 f k v) n = m_sum f n
  | 0, _ => rfl
  | n + 1, h => by
    show m_sum (up1 f k v) n + up1 f k v n = m_sum f n + f n
    rw [sum_lo (by omega), up1_ne (by omega)]
theorem sum_up {f : Nat → Int32} {k : Nat} {l : Int32} : ∀ {n : Nat}, k < n → m_sum (up1 f k (f k - l)) n = m_sum f n - l
  | n + 1, h => by
    show m_sum (up1 f k (f k - l)) n + up1 f k (f k - l) n = m_sum f n + f n - l
    by_cases c : k = n
    · subst c
      rw [sum_lo (Nat.le_refl _), up1_eq, Int32.sub_eq_add_neg, Int32.sub_eq_add_neg, Int32.add_assoc]
    · rw [sum_up (by omega), up1_ne (Ne.symm c), Int32.sub_eq_add_neg, Int32.sub_eq_add_neg, Int32.add_assoc, Int32.add_assoc, Int32.add_comm (-l)]
theorem i_asb (a b : Int32) : a - (a - b) = b := by
  rw [Int32.sub_eq_add_neg, Int32.sub_eq_add_neg, Int32.neg_add, Int32.sub_eq_add_neg, Int32.neg_neg, ← Int32.add_assoc, Int32.add_right_neg, Int32.zero_add]
/-! ===== apart ===== -/
theorem cI_ne {S : Sh} {f : Nat → Int32} {m q : Nat} : ∀ {o : Nat}, (q < m * 8 ∨ m * 8 + o ≤ q) → m_cI S f m o q = f q
  | 0, _ => rfl
  | o + 1, h => by
    show up1 (m_cI S f m o) _ _ q = _
    rw [up1_ne (by omega)]
    exact cI_ne (by omega)
theorem cI_eq {S : Sh} {f : Nat → Int32} {m j : Nat} : ∀ {o : Nat}, j < o → m_cI S f m o (m * 8 + j) = if h_a S m = h_a S j then 0 else f (m * 8 + j) + 1
  | o + 1, h => by
    show up1 (m_cI S f m o) _ _ _ = _
    by_cases c : j = o
    · subst c
      rw [up1_eq, cI_ne (Or.inr (Nat.le_refl _))]
    · rw [up1_ne (by omega)]
      exact cI_eq (by omega)
theorem cP_ge {S : Sh} {m j : Nat} (hj : j < 8) : ∀ {n : Nat}, n ≤ m → n ≤ 8 → m_cP S n (m * 8 + j) = h_p S (m * 8 + j)
  | 0, _, _ => rfl
  | n + 1, h, h8 => by
    show m_cI S (m_cP S n) n n (m * 8 + j) = _
    rw [cI_ne (by omega)]
    exact cP_ge hj (by omega) (by omega)
theorem cP_lt {S : Sh} {m j : Nat} (hj : j < m) : ∀ {n : Nat}, m < n → n ≤ 8 → m_cP S n (m * 8 + j) = if h_a S m = h_a S j then 0 else h_p S (m * 8 + j) + 1
  | n + 1, h, h8 => by
    show m_cI S (m_cP S n) n n (m * 8 + j) = _
    by_cases c : m = n
    · subst c
      rw [cI_eq hj, cP_ge (by omega) (Nat.le_refl _) (by omega)]
    · rw [cI_ne (by omega)]
      exact cP_lt hj (by omega) (by omega)
theorem m_apart_count {T : St} {S : Sh} {m o : Nat} (hm : m < t_m T) (ho : o < t_m T) (h8 : t_m T ≤ 8) (hne : m ≠ o) : m_apart (m_count T S) m o = if h_a S m = h_a S o then 0 else m_apart S m o + 1 := by
  unfold m_apart
  show (if o < m then m_cP S (t_m T) (m * 8 + o) else m_cP S (t_m T) (o * 8 + m)) = _
  by_cases c : o < m
  · rw [if_pos c, if_pos c, cP_lt c hm h8]
  · rw [if_neg c, if_neg c, cP_lt (by omega) ho h8]
    by_cases d : h_a S m = h_a S o
    · rw [if_pos d, if_pos d.symm]
    · rw [if_neg d, if_neg (fun e => d e.symm)]
/-! ===== who is alive after the way over ===== -/
theorem cA_alive {T : St} {S : Sh} {j : Nat} : ∀ {k : Nat}, (∀ m, m < k → m_bit (m_board T S) m = true → m_alive S m = true) → (!decide (m_cA T S k j = -1)) = m_alive S j
  | 0, _ => rfl
  | k + 1, h => by
    have ih := cA_alive (T := T) (S := S) (j := j) (k := k) (fun m hm => h m (by omega))
    show (!decide ((if m_bit (m_board T S) k = true then up1 (m_cA T S k) k (Int32.ofNat (1 - m_from S)) else m_cA T S k) j = -1)) = _
    by_cases c : m_bit (m_board T S) k = true
    · rw [if_pos c]
      by_cases d : j = k
      · subst d
        rw [up1_eq, h j (by omega) c]
        have b6 := m_from_lt S
        have : 1 - m_from S = 0 ∨ 1 - m_from S = 1 := by omega
        rcases this with e | e <;> rw [e] <;> decide
      · rw [up1_ne d]
        exact ih
    · rw [if_neg c]
      exact ih
theorem pm_bit {T : St} {S : Sh} {j : Nat} (hj : j < 32) : ∀ {k : Nat}, k ≤ 32 → m_bit (m_pm T S k).1 j = true → j < k ∧ h_a S j = Int32.ofNat (m_from S)
  | 0, _, h => by
    rw [m_bit_bt hj] at h
    have e : (m_pm T S 0).1 = 0 := rfl
    rw [e, bt_0] at h
    cases h
  | k + 1, hk, h => by
    by_cases c : ¬ m_room T S - (m_pm T S k).2 < 2 ∧ h_a S k = Int32.ofNat (m_from S) ∧ m_bit (m_missed T S) k = true
    · rw [m_pm_t c.1 c.2.1 c.2.2, m_bit_bt hj] at h
      have h' : btb ((m_pm T S k).1 ||| 1 <<< (Int32.ofNat k &&& 31)) j = true := h
      rw [bt_or, bt_sh (by omega), Bool.or_eq_true] at h'
      rcases h' with h' | h'
      · rw [← m_bit_bt hj] at h'
        obtain ⟨a, b⟩ := pm_bit hj (by omega) h'
        exact ⟨by omega, b⟩
      · have := of_decide_eq_true h'
        subst this
        exact ⟨by omega, c.2.1⟩
    · rw [show m_pm T S (k + 1) = m_pm T S k from if_neg c] at h
      obtain ⟨a, b⟩ := pm_bit hj (by omega) h
      exact ⟨by omega, b⟩
theorem board_alive {T : St} {S : Sh} (h8 : t_m T ≤ 8) {m : Nat} (hm : m < t_m T) (h : m_bit (m_board T S) m = true) : m_alive S m = true := by
  obtain ⟨-, b⟩ := pm_bit (by omega) (by omega) h
  unfold m_alive
  rw [b]
  have b6 := m_from_lt S
  have : m_from S = 0 ∨ m_from S = 1 := by omega
  rcases this with e | e <;> rw [e] <;> decide
theorem alive_carry {T : St} {S : Sh} (h8 : t_m T ≤ 8) {j : Nat} : m_alive (m_carry T S) j = m_alive S j := cA_alive fun _ hm h => board_alive h8 hm h
/-! ===== eating, as the reference does it ===== -/
theorem less_min {x : Int32} : m_less 999 x = ab_min 999 x := by
  rcases ls_c 999 x with ⟨b, f⟩ | ⟨b, f⟩ <;> rw [f] <;> rcases mn_c 999 x with ⟨a, e⟩ | ⟨a, e⟩ <;> rw [e] <;> (try rfl) <;> apply Int32.toInt_inj.mp <;> omega
theorem eat_no {T : St} (hT : TBB T) {k : Nat} {x : Int32} (hk : k < 12) (h0 : 0 ≤ x.toInt) (h1 : x.toInt ≤ 999) (h : t_a T (24 + k) - m_less 999 (x + t_a T (36 + k)) ≤ 0) : ¬ m_left T k x < 0 ∧ m_less 999 (x + t_a T (36 + k)) - t_a T (24 + k) = ab_max 0 (m_left T k x) := by
  have hl := left_b hT hk h0 h1
  have b := hT.2.2 (24 + k) (by omega)
  rw [less_min] at h ⊢
  rw [Int32.le_iff_toInt_le, i_subI (by omega) (by omega), i_0] at h
  refine ⟨?_, ?_⟩
  · rw [Int32.lt_iff_toInt_lt, i_0]
    omega
  · show m_left T k x = _
    rcases mx_c 0 (m_left T k x) with ⟨q, e⟩ | ⟨q, e⟩ <;> rw [e]
    rw [i_0] at q
    apply Int32.toInt_inj.mp
    rw [i_0]
    omega
theorem eat_yes {T : St} (hT : TBB T) {k : Nat} {x u : Int32} (hk : k < 12) (h0 : 0 ≤ x.toInt) (h1 : x.toInt ≤ 999) (h : ¬ t_a T (24 + k) - m_less 999 (x + t_a T (36 + k)) ≤ 0) : m_left T k x < 0 ∧ ab_max 0 (m_left T k x) = 0 ∧ u + (t_a T (24 + k) - m_less 999 (x + t_a T (36 + k))) = u - m_left T k x := by
  have hl := left_b hT hk h0 h1
  have b := hT.2.2 (24 + k) (by omega)
  rw [less_min] at h ⊢
  rw [Int32.le_iff_toInt_le, i_subI (by omega) (by omega), i_0] at h
  have hlt : m_left T k x < 0 := by
    rw [Int32.lt_iff_toInt_lt, i_0]
    omega
  refine ⟨hlt, ?_, ?_⟩
  · rcases mx_c 0 (m_left T k x) with ⟨q, e⟩ | ⟨q, e⟩ <;> rw [e]
    rw [i_0] at q
    omega
  · unfold m_left
    rw [Int32.sub_eq_add_neg u, Int32.neg_sub]
theorem fr_eq {T : St} {S : Sh} (hT : TBB T) (hS : SB S) (hD : h_d S < 400) {g : Nat} (hg : g < 6) : m_less (t_l T - m_pg T S g) (m_less (m_cS T S g (2 * g + m_from S)) (m_lackr (t_a T (1 * 12 + (2 * g + (1 - m_from S)))) (m_cS T S g (2 * g + (1 - m_from S))))) = m_fr T S g := by
  have b6 := m_from_lt S
  have er : m_room T S = t_l T := if_pos hD
  have ih := pg_b hT hS g (by omega)
  have hr := room_b (S := S) hT
  have h1 := i_subI (a := m_room T S) (b := m_pg T S g) (by omega) (by omega)
  rw [cS_ge (by omega), cS_ge (by omega), lackr_eq, ← er]
  exact moved_eq (hS _ (by omega)).1 (lack_b hT hS (k := 2 * g + (1 - m_from S)) (by omega)).1 (by omega)
theorem i_sub0 {a b : Int32} : a - b = a ↔ b = 0 := by
  constructor
  · intro h
    have e := i_asb a b
    rw [h] at e
    rw [← e]
    exact Int32.sub_self a
  · intro h
    rw [h]
    exact Int32.sub_zero a
