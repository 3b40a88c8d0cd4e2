-- 63.b45.pure.lean.txt
section
/-! ===== whole numbers in the model ===== -/
theorem i_subI {a b : Int32} (h1 : -2147483648 ≤ a.toInt - b.toInt) (h2 : a.toInt - b.toInt ≤ 2147483647) : (a - b).toInt = a.toInt - b.toInt := by
  rw [Int32.toInt_sub]
  exact Int.bmod_eq_of_le (by omega) (by omega)
theorem i_addI {a b : Int32} (h1 : -2147483648 ≤ a.toInt + b.toInt) (h2 : a.toInt + b.toInt ≤ 2147483647) : (a + b).toInt = a.toInt + b.toInt := by
  rw [Int32.toInt_add]
  exact Int.bmod_eq_of_le (by omega) (by omega)
theorem mx_c (a b : Int32) : (a.toInt < b.toInt ∧ ab_max a b = b) ∨ (b.toInt ≤ a.toInt ∧ ab_max a b = a) := by
  unfold ab_max
  by_cases h : a < b
  · rw [if_pos h]
    exact Or.inl ⟨Int32.lt_iff_toInt_lt.mp h, rfl⟩
  · rw [if_neg h]
    rw [Int32.lt_iff_toInt_lt] at h
    exact Or.inr ⟨by omega, rfl⟩
theorem mn_c (a b : Int32) : (b.toInt < a.toInt ∧ ab_min a b = b) ∨ (a.toInt ≤ b.toInt ∧ ab_min a b = a) := by
  unfold ab_min
  by_cases h : b < a
  · rw [if_pos h]
    exact Or.inl ⟨Int32.lt_iff_toInt_lt.mp h, rfl⟩
  · rw [if_neg h]
    rw [Int32.lt_iff_toInt_lt] at h
    exact Or.inr ⟨by omega, rfl⟩
theorem ls_c (a b : Int32) : (b.toInt ≤ a.toInt ∧ m_less a b = b) ∨ (a.toInt < b.toInt ∧ m_less a b = a) := by
  unfold m_less
  by_cases h : b ≤ a
  · rw [if_pos h]
    exact Or.inl ⟨Int32.le_iff_toInt_le.mp h, rfl⟩
  · rw [if_neg h]
    rw [Int32.le_iff_toInt_le] at h
    exact Or.inr ⟨by omega, rfl⟩
theorem i_0 : (0 : Int32).toInt = 0 := rfl
theorem i_999 : (999 : Int32).toInt = 999 := rfl
theorem i_2 : (2 : Int32).toInt = 2 := rfl
/-- amounts and load as they can be told; stocks as they can be -/
def TBB (T : St) : Prop := 0 ≤ (t_l T).toInt ∧ (t_l T).toInt ≤ 40 ∧ ∀ k, k < 48 → 0 ≤ (t_a T k).toInt ∧ (t_a T k).toInt ≤ 250
def SB (S : Sh) : Prop := ∀ k, k < 12 → 0 ≤ (h_s S k).toInt ∧ (h_s S k).toInt ≤ 999
theorem moved_b {s l r : Int32} (hs : 0 ≤ s.toInt) (hl : 0 ≤ l.toInt) (hr : 0 ≤ r.toInt) : 0 ≤ (m_moved s l r).toInt ∧ (m_moved s l r).toInt ≤ s.toInt ∧ (m_moved s l r).toInt ≤ l.toInt ∧ (m_moved s l r).toInt ≤ r.toInt := by
  unfold m_moved
  rcases mn_c l r with ⟨a, e⟩ | ⟨a, e⟩ <;> rw [e] <;> rcases mn_c s _ with ⟨a2, e2⟩ | ⟨a2, e2⟩ <;> rw [e2] <;> rcases mx_c 0 _ with ⟨a3, e3⟩ | ⟨a3, e3⟩ <;> rw [e3] <;> rw [i_0] at a3 <;> (try rw [i_0]) <;> omega
theorem moved_eq {s l r : Int32} (hs : 0 ≤ s.toInt) (hl : 0 ≤ l.toInt) (hr : 0 ≤ r.toInt) : m_less r (m_less s l) = m_moved s l r := by
  unfold m_moved
  apply Int32.toInt_inj.mp
  rcases ls_c s l with ⟨b, f⟩ | ⟨b, f⟩ <;> rw [f] <;> rcases ls_c r _ with ⟨b2, f2⟩ | ⟨b2, f2⟩ <;> rw [f2] <;> rcases mn_c l r with ⟨a, e⟩ | ⟨a, e⟩ <;> rw [e] <;> rcases mn_c s _ with ⟨a2, e2⟩ | ⟨a2, e2⟩ <;> rw [e2] <;> rcases mx_c 0 _ with ⟨a3, e3⟩ | ⟨a3, e3⟩ <;> rw [e3] <;> rw [i_0] at a3 <;> (try rw [i_0]) <;> omega
theorem lack_b {T : St} {S : Sh} (hT : TBB T) (hS : SB S) {k : Nat} (hk : k < 12) : 0 ≤ (m_lack T S k).toInt ∧ ((m_lack T S k).toInt = 0 ∨ (h_s S k).toInt + (m_lack T S k).toInt ≤ 250) := by
  have h1 := hT.2.2 (1 * 12 + k) (by omega)
  have h2 := hS k hk
  have h3 := i_subI (a := t_a T (1 * 12 + k)) (b := h_s S k) (by omega) (by omega)
  unfold m_lack
  rcases mx_c 0 (t_a T (1 * 12 + k) - h_s S k) with ⟨a, e⟩ | ⟨a, e⟩ <;> rw [e] <;> rw [i_0] at a <;> (try rw [i_0]) <;> omega
theorem lackr_eq {w s : Int32} : m_lackr w s = ab_max 0 (w - s) := by
  unfold m_lackr
  rcases mx_c 0 (w - s) with ⟨a, e⟩ | ⟨a, e⟩
  · rw [e, if_neg]
    rw [Int32.le_iff_toInt_le]
    rw [i_0] at a ⊢
    omega
  · rw [e]
    by_cases h : w - s ≤ 0
    · rw [if_pos h]
    · rw [Int32.le_iff_toInt_le] at h
      rw [i_0] at a h
      omega
theorem room_b {T : St} {S : Sh} (hT : TBB T) : 0 ≤ (m_room T S).toInt ∧ (m_room T S).toInt ≤ 40 := by
  unfold m_room
  by_cases h : h_d S < 400
  · rw [if_pos h]
    exact ⟨hT.1, hT.2.1⟩
  · rw [if_neg h]
    exact ⟨by decide, by decide⟩
theorem pm_b {T : St} {S : Sh} (hT : TBB T) : ∀ k, 0 ≤ (m_pm T S k).2.toInt ∧ (m_pm T S k).2.toInt ≤ (m_room T S).toInt
  | 0 => ⟨show (0 : Int) ≤ (0 : Int32).toInt by decide, (room_b hT).1⟩
  | k + 1 => by
    have ih := pm_b (S := S) hT k
    have hr := room_b (S := S) hT
    by_cases h : ¬ m_room T S - (m_pm T S k).2 < 2 ∧ h_a S k = Int32.ofNat (m_from S) ∧ m_bit (m_missed T S) k = true
    · rw [m_pm_t h.1 h.2.1 h.2.2]
      have h1 := h.1
      rw [Int32.lt_iff_toInt_lt, i_subI (by omega) (by omega), i_2] at h1
      have h2 := i_addI (a := (m_pm T S k).2) (b := 2) (by rw [i_2]; omega) (by rw [i_2]; omega)
      rw [i_2] at h2
      show 0 ≤ ((m_pm T S k).2 + 2).toInt ∧ ((m_pm T S k).2 + 2).toInt ≤ _
      omega
    · have e : m_pm T S (k + 1) = m_pm T S k := if_neg h
      rw [e]
      exact ih
theorem pg_b {T : St} {S : Sh} (hT : TBB T) (hS : SB S) : ∀ g, g ≤ 6 → 0 ≤ (m_pg T S g).toInt ∧ (m_pg T S g).toInt ≤ (m_room T S).toInt
  | 0, _ => pm_b hT _
  | g + 1, hg => by
    have ih := pg_b hT hS g (by omega)
    have hr := room_b (S := S) hT
    have b6 := m_from_lt S
    have h1 := i_subI (a := m_room T S) (b := m_pg T S g) (by omega) (by omega)
    have h2 := moved_b (s := h_s S (2 * g + m_from S)) (l := m_lack T S (2 * g + (1 - m_from S))) (r := m_room T S - m_pg T S g) (hS _ (by omega)).1 (lack_b hT hS (by omega)).1 (by omega)
    show 0 ≤ (m_pg T S g + m_moved _ _ _).toInt ∧ (m_pg T S g + m_moved _ _ _).toInt ≤ _
    rw [i_addI (by omega) (by omega)]
    omega
theorem fr_b {T : St} {S : Sh} (hT : TBB T) (hS : SB S) {g : Nat} (hg : g < 6) : 0 ≤ (m_fr T S g).toInt ∧ (m_fr T S g).toInt ≤ (h_s S (2 * g + m_from S)).toInt ∧ ((m_fr T S g).toInt = 0 ∨ (h_s S (2 * g + (1 - m_from S))).toInt + (m_fr T S g).toInt ≤ 250) := by
  have ih := pg_b hT hS g (by omega)
  have hr := room_b (S := S) hT
  have b6 := m_from_lt S
  have h1 := i_subI (a := m_room T S) (b := m_pg T S g) (by omega) (by omega)
  have h3 := lack_b hT hS (k := 2 * g + (1 - m_from S)) (by omega)
  have h2 := moved_b (s := h_s S (2 * g + m_from S)) (l := m_lack T S (2 * g + (1 - m_from S))) (r := m_room T S - m_pg T S g) (hS _ (by omega)).1 h3.1 (by omega)
  unfold m_fr
  omega
/-! ===== what the loops come to ===== -/
theorem cS_ge {T : St} {S : Sh} {j : Nat} : ∀ {g : Nat}, 2 * g ≤ j → m_cS T S g j = h_s S j
  | 0, _ => rfl
  | g + 1, h => by
    have b6 := m_from_lt S
    show up1 (up1 (m_cS T S g) _ _) _ _ j = _
    rw [up1_ne (by omega), up1_ne (by omega)]
    exact cS_ge (by omega)
theorem cC_ge {T : St} {S : Sh} {j : Nat} : ∀ {g : Nat}, 2 * g ≤ j → m_cC T S g j = h_c S j
  | 0, _ => rfl
  | g + 1, h => by
    have b6 := m_from_lt S
    show up1 (m_cC T S g) _ _ j = _
    rw [up1_ne (by omega)]
    exact cC_ge (by omega)
theorem cS_1 {T : St} {S : Sh} {k : Nat} : ∀ {g : Nat}, k < g → m_cS T S g (2 * k + m_from S) = h_s S (2 * k + m_from S) - m_fr T S k
  | g + 1, h => by
    have b6 := m_from_lt S
    show up1 (up1 (m_cS T S g) _ _) _ _ _ = _
    rw [up1_ne (by omega)]
    by_cases c : k = g
    · subst c
      rw [up1_eq, cS_ge (by omega)]
    · rw [up1_ne (by omega)]
      exact cS_1 (by omega)
theorem cS_2 {T : St} {S : Sh} {k : Nat} : ∀ {g : Nat}, k < g → m_cS T S g (2 * k + (1 - m_from S)) = h_s S (2 * k + (1 - m_from S)) + m_fr T S k
  | g + 1, h => by
    have b6 := m_from_lt S
    show up1 (up1 (m_cS T S g) _ _) _ _ _ = _
    by_cases c : k = g
    · subst c
      rw [up1_eq, cS_ge (by omega)]
    · rw [up1_ne (by omega), up1_ne (by omega)]
      exact cS_2 (by omega)
theorem cS_b {T : St} {S : Sh} (hT : TBB T) (hS : SB S) {g j : Nat} (hg : g ≤ 6) (hj : j < 12) : 0 ≤ (m_cS T S g j).toInt ∧ (m_cS T S g j).toInt ≤ 999 := by
  have b6 := m_from_lt S
  have hb := hS j hj
  by_cases c : 2 * g ≤ j
  · rw [cS_ge c]
    exact hb
  · have hf := fr_b hT hS (g := j / 2) (by omega)
    by_cases d : j = 2 * (j / 2) + m_from S
    · have e := cS_1 (T := T) (S := S) (k := j / 2) (g := g) (by omega)
      rw [← d] at e hf
      rw [e, i_subI (by omega) (by omega)]
      omega
    · have d2 : j = 2 * (j / 2) + (1 - m_from S) := by omega
      have e := cS_2 (T := T) (S := S) (k := j / 2) (g := g) (by omega)
      rw [← d2] at e
      have hf2 := hf.2.2
      rw [← d2] at hf2
      rw [e, i_addI (by omega) (by omega)]
      omega
theorem eS_ge {T : St} {S : Sh} {j : Nat} : ∀ {k : Nat}, k ≤ j → m_eS T S k j = h_s S j
  | 0, _ => rfl
  | k + 1, h => by
    show up1 (m_eS T S k) _ _ j = _
    rw [up1_ne (by omega)]
    exact eS_ge (by omega)
theorem eS_lt {T : St} {S : Sh} {j : Nat} : ∀ {k : Nat}, j < k → m_eS T S k j = ab_max 0 (m_left T j (h_s S j))
  | k + 1, h => by
    show up1 (m_eS T S k) _ _ j = _
    by_cases c : j = k
    · subst c
      rw [up1_eq, eS_ge (Nat.le_refl j)]
    · rw [up1_ne c]
      exact eS_lt (by omega)
theorem left_b {T : St} (hT : TBB T) {k : Nat} {x : Int32} (hk : k < 12) (h0 : 0 ≤ x.toInt) (h1 : x.toInt ≤ 999) : (m_left T k x).toInt = (ab_min 999 (x + t_a T (36 + k))).toInt - (t_a T (24 + k)).toInt ∧ 0 ≤ (ab_min 999 (x + t_a T (36 + k))).toInt ∧ (ab_min 999 (x + t_a T (36 + k))).toInt ≤ 999 := by
  have a := hT.2.2 (36 + k) (by omega)
  have b := hT.2.2 (24 + k) (by omega)
  have c := i_addI (a := x) (b := t_a T (36 + k)) (by omega) (by omega)
  have d : 0 ≤ (ab_min 999 (x + t_a T (36 + k))).toInt ∧ (ab_min 999 (x + t_a T (36 + k))).toInt ≤ 999 := by
    rcases mn_c 999 (x + t_a T (36 + k)) with ⟨q, e⟩ | ⟨q, e⟩ <;> rw [e] <;> rw [i_999] at q <;> (try rw [i_999]) <;> omega
  refine ⟨?_, d⟩
  unfold m_left
  exact i_subI (by omega) (by omega)
theorem eS_b {T : St} {S : Sh} (hT : TBB T) (hS : SB S) {k j : Nat} (hj : j < 12) : 0 ≤ (m_eS T S k j).toInt ∧ (m_eS T S k j).toInt ≤ 999 := by
  have hb := hS j hj
  by_cases c : k ≤ j
  · rw [eS_ge c]
    exact hb
  · rw [eS_lt (by omega)]
    have h := left_b hT hj hb.1 hb.2
    have b := hT.2.2 (24 + j) (by omega)
    rcases mx_c 0 (m_left T j (h_s S j)) with ⟨q, e⟩ | ⟨q, e⟩ <;> rw [e] <;> rw [i_0] at q <;> (try rw [i_0]) <;> omega
theorem SB_carry {T : St} {S : Sh} (hT : TBB T) (hS : SB S) (hg : t_g T ≤ 6) : SB (m_carry T S) := fun k hk => cS_b hT hS hg hk
theorem SB_eat {T : St} {S : Sh} (hT : TBB T) (hS : SB S) : SB (m_eat T S) := fun k hk => eS_b hT hS hk
theorem SB_day {T : St} {S : Sh} (hT : TBB T) (hS : SB S) (hg : t_g T ≤ 6) : SB (m_day T S) := fun k hk => SB_eat hT (SB_carry hT hS hg) k hk
theorem SB_days {T : St} {S : Sh} (hT : TBB T) (hS : SB S) (hg : t_g T ≤ 6) : ∀ n, SB (m_days T S n)
  | 0 => hS
  | n + 1 => by
    by_cases h : h_d (m_days T S n) < 400
    · rw [m_days_s h]
      exact SB_day hT (SB_days hT hS hg n) hg
    · rw [show m_days T S (n + 1) = m_days T S n from if_neg h]
      exact SB_days hT hS hg n
theorem up1_up1 {f : Nat → Int32} {i : Nat} {v w : Int32} : up1 (up1 f i v) i w = up1 f i w := funext fun j => by
  by_cases h : j = i
  · rw [h, up1_eq, up1_eq]
  · rw [up1_ne h, up1_ne h, up1_ne h]
theorem sum_lo {f : Nat → Int32} {k : Nat} {v : Int32} : ∀ {n : Nat}, n ≤ k → m_sum (up1 f k v) n = m_sum f n
  | 0, _ => rfl
  | n + 1, h => by
    show m_sum (up1 f k v) n + up1 f k v n = m_sum f n + f n
    rw [sum_lo (by omega), up1_ne (by omega)]
theorem sum_up {f : Nat → Int32} {k : Nat} {l : Int32} : ∀ {n : Nat}, k < n → m_sum (up1 f k (f k - l)) n = m_sum f n - l
  | n + 1, h => by
    show m_sum (up1 f k (f k - l)) n + up1 f k (f k - l) n = m_sum f n + f n - l
    by_cases c : k = n
    · subst c
      rw [sum_lo (Nat.le_refl _), up1_eq, Int32.sub_eq_add_neg, Int32.sub_eq_add_neg, Int32.add_assoc]
    · rw [sum_up (by omega), up1_ne (Ne.symm c), Int32.sub_eq_add_neg, Int32.sub_eq_add_neg, Int32.add_assoc, Int32.add_assoc, Int32.add_comm (-l)]
theorem i_asb (a b : Int32) : a - (a - b) = b := by
  rw [Int32.sub_eq_add_neg, Int32.sub_eq_add_neg, Int32.neg_add, Int32.sub_eq_add_neg, Int32.neg_neg, ← Int32.add_assoc, Int32.add_right_neg, Int32.zero_add]
/-! ===== apart ===== -/
theorem cI_ne {S : Sh} {f : Nat → Int32} {m q : Nat} : ∀ {o : Nat}, (q < m * 8 ∨ m * 8 + o ≤ q) → m_cI S f m o q = f q
  | 0, _ => rfl
  | o + 1, h => by
    show up1 (m_cI S f m o) _ _ q = _
    rw [up1_ne (by omega)]
    exact cI_ne (by omega)
theorem cI_eq {S : Sh} {f : Nat → Int32} {m j : Nat} : ∀ {o : Nat}, j < o → m_cI S f m o (m * 8 + j) = if h_a S m = h_a S j then 0 else f (m * 8 + j) + 1
  | o + 1, h => by
    show up1 (m_cI S f m o) _ _ _ = _
    by_cases c : j = o
    · subst c
      rw [up1_eq, cI_ne (Or.inr (Nat.le_refl _))]
    · rw [up1_ne (by omega)]
      exact cI_eq (by omega)
theorem cP_ge {S : Sh} {m j : Nat} (hj : j < 8) : ∀ {n : Nat}, n ≤ m → n ≤ 8 → m_cP S n (m * 8 + j) = h_p S (m * 8 + j)
  | 0, _, _ => rfl
  | n + 1, h, h8 => by
    show m_cI S (m_cP S n) n n (m * 8 + j) = _
    rw [cI_ne (by omega)]
    exact cP_ge hj (by omega) (by omega)
theorem cP_lt {S : Sh} {m j : Nat} (hj : j < m) : ∀ {n : Nat}, m < n → n ≤ 8 → m_cP S n (m * 8 + j) = if h_a S m = h_a S j then 0 else h_p S (m * 8 + j) + 1
  | n + 1, h, h8 => by
    show m_cI S (m_cP S n) n n (m * 8 + j) = _
    by_cases c : m = n
    · subst c
      rw [cI_eq hj, cP_ge (by omega) (Nat.le_refl _) (by omega)]
    · rw [cI_ne (by omega)]
      exact cP_lt hj (by omega) (by omega)
theorem m_apart_count {T : St} {S : Sh} {m o : Nat} (hm : m < t_m T) (ho : o < t_m T) (h8 : t_m T ≤ 8) (hne : m ≠ o) : m_apart (m_count T S) m o = if h_a S m = h_a S o then 0 else m_apart S m o + 1 := by
  unfold m_apart
  show (if o < m then m_cP S (t_m T) (m * 8 + o) else m_cP S (t_m T) (o * 8 + m)) = _
  by_cases c : o < m
  · rw [if_pos c, if_pos c, cP_lt c hm h8]
  · rw [if_neg c, if_neg c, cP_lt (by omega) ho h8]
    by_cases d : h_a S m = h_a S o
    · rw [if_pos d, if_pos d.symm]
    · rw [if_neg d, if_neg (fun e => d e.symm)]
/-! ===== who is alive after the way over ===== -/
theorem cA_alive {T : St} {S : Sh} {j : Nat} : ∀ {k : Nat}, (∀ m, m < k → m_bit (m_board T S) m = true → m_alive S m = true) → (!decide (m_cA T S k j = -1)) = m_alive S j
  | 0, _ => rfl
  | k + 1, h => by
    have ih := cA_alive (T := T) (S := S) (j := j) (k := k) (fun m hm => h m (by omega))
    show (!decide ((if m_bit (m_board T S) k = true then up1 (m_cA T S k) k (Int32.ofNat (1 - m_from S)) else m_cA T S k) j = -1)) = _
    by_cases c : m_bit (m_board T S) k = true
    · rw [if_pos c]
      by_cases d : j = k
      · subst d
        rw [up1_eq, h j (by omega) c]
        have b6 := m_from_lt S
        have : 1 - m_from S = 0 ∨ 1 - m_from S = 1 := by omega
        rcases this with e | e <;> rw [e] <;> decide
      · rw [up1_ne d]
        exact ih
    · rw [if_neg c]
      exact ih
theorem pm_bit {T : St} {S : Sh} {j : Nat} (hj : j < 32) : ∀ {k : Nat}, k ≤ 32 → m_bit (m_pm T S k).1 j = true → j < k ∧ h_a S j = Int32.ofNat (m_from S)
  | 0, _, h => by
    rw [m_bit_bt hj] at h
    have e : (m_pm T S 0).1 = 0 := rfl
    rw [e, bt_0] at h
    cases h
  | k + 1, hk, h => by
    by_cases c : ¬ m_room T S - (m_pm T S k).2 < 2 ∧ h_a S k = Int32.ofNat (m_from S) ∧ m_bit (m_missed T S) k = true
    · rw [m_pm_t c.1 c.2.1 c.2.2, m_bit_bt hj] at h
      have h' : btb ((m_pm T S k).1 ||| 1 <<< (Int32.ofNat k &&& 31)) j = true := h
      rw [bt_or, bt_sh (by omega), Bool.or_eq_true] at h'
      rcases h' with h' | h'
      · rw [← m_bit_bt hj] at h'
        obtain ⟨a, b⟩ := pm_bit hj (by omega) h'
        exact ⟨by omega, b⟩
      · have := of_decide_eq_true h'
        subst this
        exact ⟨by omega, c.2.1⟩
    · rw [show m_pm T S (k + 1) = m_pm T S k from if_neg c] at h
      obtain ⟨a, b⟩ := pm_bit hj (by omega) h
      exact ⟨by omega, b⟩
theorem board_alive {T : St} {S : Sh} (h8 : t_m T ≤ 8) {m : Nat} (hm : m < t_m T) (h : m_bit (m_board T S) m = true) : m_alive S m = true := by
  obtain ⟨-, b⟩ := pm_bit (by omega) (by omega) h
  unfold m_alive
  rw [b]
  have b6 := m_from_lt S
  have : m_from S = 0 ∨ m_from S = 1 := by omega
  rcases this with e | e <;> rw [e] <;> decide
theorem alive_carry {T : St} {S : Sh} (h8 : t_m T ≤ 8) {j : Nat} : m_alive (m_carry T S) j = m_alive S j := cA_alive fun _ hm h => board_alive h8 hm h
/-! ===== eating, as the reference does it ===== -/
theorem less_min {x : Int32} : m_less 999 x = ab_min 999 x := by
  rcases ls_c 999 x with ⟨b, f⟩ | ⟨b, f⟩ <;> rw [f] <;> rcases mn_c 999 x with ⟨a, e⟩ | ⟨a, e⟩ <;> rw [e] <;> (try rfl) <;> apply Int32.toInt_inj.mp <;> omega
theorem eat_no {T : St} (hT : TBB T) {k : Nat} {x : Int32} (hk : k < 12) (h0 : 0 ≤ x.toInt) (h1 : x.toInt ≤ 999) (h : t_a T (24 + k) - m_less 999 (x + t_a T (36 + k)) ≤ 0) : ¬ m_left T k x < 0 ∧ m_less 999 (x + t_a T (36 + k)) - t_a T (24 + k) = ab_max 0 (m_left T k x) := by
  have hl := left_b hT hk h0 h1
  have b := hT.2.2 (24 + k) (by omega)
  rw [less_min] at h ⊢
  rw [Int32.le_iff_toInt_le, i_subI (by omega) (by omega), i_0] at h
  refine ⟨?_, ?_⟩
  · rw [Int32.lt_iff_toInt_lt, i_0]
    omega
  · show m_left T k x = _
    rcases mx_c 0 (m_left T k x) with ⟨q, e⟩ | ⟨q, e⟩ <;> rw [e]
    rw [i_0] at q
    apply Int32.toInt_inj.mp
    rw [i_0]
    omega
theorem eat_yes {T : St} (hT : TBB T) {k : Nat} {x u : Int32} (hk : k < 12) (h0 : 0 ≤ x.toInt) (h1 : x.toInt ≤ 999) (h : ¬ t_a T (24 + k) - m_less 999 (x + t_a T (36 + k)) ≤ 0) : m_left T k x < 0 ∧ ab_max 0 (m_left T k x) = 0 ∧ u + (t_a T (24 + k) - m_less 999 (x + t_a T (36 + k))) = u - m_left T k x := by
  have hl := left_b hT hk h0 h1
  have b := hT.2.2 (24 + k) (by omega)
  rw [less_min] at h ⊢
  rw [Int32.le_iff_toInt_le, i_subI (by omega) (by omega), i_0] at h
  have hlt : m_left T k x < 0 := by
    rw [Int32.lt_iff_toInt_lt, i_0]
    omega
  refine ⟨hlt, ?_, ?_⟩
  · rcases mx_c 0 (m_left T k x) with ⟨q, e⟩ | ⟨q, e⟩ <;> rw [e]
    rw [i_0] at q
    omega
  · unfold m_left
    rw [Int32.sub_eq_add_neg u, Int32.neg_sub]
theorem fr_eq {T : St} {S : Sh} (hT : TBB T) (hS : SB S) (hD : h_d S < 400) {g : Nat} (hg : g < 6) : m_less (t_l T - m_pg T S g) (m_less (m_cS T S g (2 * g + m_from S)) (m_lackr (t_a T (1 * 12 + (2 * g + (1 - m_from S)))) (m_cS T S g (2 * g + (1 - m_from S))))) = m_fr T S g := by
  have b6 := m_from_lt S
  have er : m_room T S = t_l T := if_pos hD
  have ih := pg_b hT hS g (by omega)
  have hr := room_b (S := S) hT
  have h1 := i_subI (a := m_room T S) (b := m_pg T S g) (by omega) (by omega)
  rw [cS_ge (by omega), cS_ge (by omega), lackr_eq, ← er]
  exact moved_eq (hS _ (by omega)).1 (lack_b hT hS (k := 2 * g + (1 - m_from S)) (by omega)).1 (by omega)
theorem i_sub0 {a b : Int32} : a - b = a ↔ b = 0 := by
  constructor
  · intro h
    have e := i_asb a b
    rw [h] at e
    rw [← e]
    exact Int32.sub_self a
  · intro h
    rw [h]
    exact Int32.sub_zero a
end
-- 63.b46.m1.lean.txt
section
set_option maxRecDepth 100000 in
set_option maxHeartbeats 4000000 in
theorem f_slotOf {F : FW} {g s : Nat} : Pm Z_X10_slotOf [.int (Int32.ofNat g), .int (Int32.ofNat s)] F (fun r F' => r = some (.int (Int32.ofNat (2 * g + s))) ∧ F' = F) := by
  refine Pm.of fun N => ?_
  obtain ⟨Q, hQ⟩ : ∃ Q : Option Value → FW → Prop, Q = (fun r F' => r = some (.int (Int32.ofNat (2 * g + s))) ∧ F' = F) := ⟨_, rfl⟩
  rw [← hQ]
  refine (show Pv (ab_T L_X10_slotOf) N 0 [some (.int (Int32.ofNat g)), some (.int (Int32.ofNat s))] [] F Q from ?_)
  refine Pv.lit rfl ?_
  refine Pv.iload rfl rfl ?_
  refine Pv.bin (z := Int32.ofNat (2 * g)) rfl (i_mul 2 g) ?_
  refine Pv.iload rfl rfl ?_
  refine Pv.bin (z := Int32.ofNat ((2 * g) + s)) rfl (i_add (2 * g) s) ?_
  exact Pv.ret rfl (by rw [hQ]; exact ⟨rfl, rfl⟩)
set_option maxRecDepth 100000 in
set_option maxHeartbeats 4000000 in
theorem f_amountOf {F : FW} {t s k : Nat} {T : St} (hT : TR F t T) (hk : s * 12 + k < 48) : Pm Z_X7_amountOf [.ref t, .int (Int32.ofNat s), .int (Int32.ofNat k)] F (fun r F' => r = some (.int (t_a T (s * 12 + k))) ∧ F' = F) := by
  refine Pm.of fun N => ?_
  obtain ⟨Q, hQ⟩ : ∃ Q : Option Value → FW → Prop, Q = (fun r F' => r = some (.int (t_a T (s * 12 + k))) ∧ F' = F) := ⟨_, rfl⟩
  rw [← hQ]
  refine (show Pv (ab_T L_X7_amountOf) N 0 [some (.ref t), some (.int (Int32.ofNat s)), some (.int (Int32.ofNat k))] [] F Q from ?_)
  refine Pv.aload rfl rfl ?_
  refine Pv.getR (v := .ref (t + 4)) rfl rfl (hT.o 3 (by decide)) ?_
  refine Pv.iload rfl rfl ?_
  refine Pv.lit rfl ?_
  refine Pv.bin (z := Int32.ofNat (s * 12)) rfl (i_mul s 12) ?_
  refine Pv.iload rfl rfl ?_
  refine Pv.bin (z := Int32.ofNat ((s * 12) + k)) rfl (i_add (s * 12) k) ?_
  refine Pv.ald (z := t_a T ((s * 12) + k)) rfl (by rw [i_toNat (by omega)]; exact hT.a _ (by omega)) ?_
  exact Pv.ret rfl (by rw [hQ]; exact ⟨rfl, rfl⟩)
set_option maxRecDepth 100000 in
set_option maxHeartbeats 4000000 in
theorem f_leftAfter {F : FW} {t k : Nat} {x : Int32} {T : St} (hT : TR F t T) (hk : k < 12) : Pm Z_X7_leftAfter [.ref t, .int (Int32.ofNat k), .int x] F (fun r F' => r = some (.int (m_left T k x)) ∧ F' = F) := by
  refine Pm.of fun N => ?_
  obtain ⟨Q, hQ⟩ : ∃ Q : Option Value → FW → Prop, Q = (fun r F' => r = some (.int (m_left T k x)) ∧ F' = F) := ⟨_, rfl⟩
  rw [← hQ]
  refine (show Pv (ab_T L_X7_leftAfter) N 0 [some (.ref t), some (.int (Int32.ofNat k)), some (.int x), none] [] F Q from ?_)
  refine Pv.lit rfl ?_
  refine Pv.iload rfl rfl ?_
  refine Pv.aload rfl rfl ?_
  refine Pv.getR (v := .ref (t + 4)) rfl rfl (hT.o 3 (by decide)) ?_
  refine Pv.lit rfl ?_
  refine Pv.iload rfl rfl ?_
  refine Pv.bin (z := Int32.ofNat (36 + k)) rfl (i_add 36 k) ?_
  refine Pv.ald (z := t_a T (36 + k)) rfl (by rw [i_toNat (by omega)]; exact hT.a _ (by omega)) ?_
  refine Pv.bin (z := x + (t_a T (36 + k))) rfl (rfl) ?_
  refine Pv.mm (z := ab_min 999 (x + (t_a T (36 + k)))) rfl (rfl) ?_
  refine Pv.istore (lo' := [some (.ref t), some (.int (Int32.ofNat k)), some (.int x), some (.int (ab_min 999 (x + (t_a T (36 + k)))))]) rfl rfl ?_
  refine Pv.iload rfl rfl ?_
  refine Pv.aload rfl rfl ?_
  refine Pv.getR (v := .ref (t + 4)) rfl rfl (hT.o 3 (by decide)) ?_
  refine Pv.lit rfl ?_
  refine Pv.iload rfl rfl ?_
  refine Pv.bin (z := Int32.ofNat (24 + k)) rfl (i_add 24 k) ?_
  refine Pv.ald (z := t_a T (24 + k)) rfl (by rw [i_toNat (by omega)]; exact hT.a _ (by omega)) ?_
  refine Pv.bin (z := (ab_min 999 (x + (t_a T (36 + k)))) - (t_a T (24 + k))) rfl (rfl) ?_
  exact Pv.ret rfl (by rw [hQ]; exact ⟨rfl, rfl⟩)
set_option maxRecDepth 100000 in
set_option maxHeartbeats 4000000 in
theorem f_stockAfter {F : FW} {t k : Nat} {x : Int32} {T : St} (hT : TR F t T) (hk : k < 12) : Pm Z_X7_stockAfter [.ref t, .int (Int32.ofNat k), .int x] F (fun r F' => r = some (.int (ab_max 0 (m_left T k x))) ∧ F' = F) := by
  refine Pm.of fun N => ?_
  obtain ⟨Q, hQ⟩ : ∃ Q : Option Value → FW → Prop, Q = (fun r F' => r = some (.int (ab_max 0 (m_left T k x))) ∧ F' = F) := ⟨_, rfl⟩
  rw [← hQ]
  refine (show Pv (ab_T (L_X7_stockAfter Z_X7_leftAfter)) N 0 [some (.ref t), some (.int (Int32.ofNat k)), some (.int x)] [] F Q from ?_)
  refine Pv.lit rfl ?_
  refine Pv.aload rfl rfl ?_
  refine Pv.iload rfl rfl ?_
  refine Pv.iload rfl rfl ?_
  refine Pv.callVI (as := [.ref t, .int (Int32.ofNat k), .int x]) (rest := [.int 0]) (z := m_left T k x) rfl rfl rfl (f_leftAfter (k := k) (x := x) hT (by omega)) ?_
  refine Pv.mm (z := ab_max 0 (m_left T k x)) rfl (rfl) ?_
  exact Pv.ret rfl (by rw [hQ]; exact ⟨rfl, rfl⟩)
set_option maxRecDepth 100000 in
set_option maxHeartbeats 4000000 in
theorem f_amountMoved {F : FW} {x y z : Int32} : Pm Z_X1_amountMoved [.int x, .int y, .int z] F (fun r F' => r = some (.int (m_moved x y z)) ∧ F' = F) := by
  refine Pm.of fun N => ?_
  obtain ⟨Q, hQ⟩ : ∃ Q : Option Value → FW → Prop, Q = (fun r F' => r = some (.int (m_moved x y z)) ∧ F' = F) := ⟨_, rfl⟩
  rw [← hQ]
  refine (show Pv (ab_T L_X1_amountMoved) N 0 [some (.int x), some (.int y), some (.int z)] [] F Q from ?_)
  refine Pv.lit rfl ?_
  refine Pv.iload rfl rfl ?_
  refine Pv.iload rfl rfl ?_
  refine Pv.iload rfl rfl ?_
  refine Pv.mm (z := ab_min y z) rfl (rfl) ?_
  refine Pv.mm (z := ab_min x (ab_min y z)) rfl (rfl) ?_
  refine Pv.mm (z := ab_max 0 (ab_min x (ab_min y z))) rfl (rfl) ?_
  exact Pv.ret rfl (by rw [hQ]; exact ⟨rfl, rfl⟩)
set_option maxRecDepth 100000 in
set_option maxHeartbeats 4000000 in
theorem f_ferryShore {F : FW} {p m : Nat} {S : Sh} (hS : SHR F p m S) : Pm Z_X6_ferryShore [.ref p] F (fun r F' => r = some (.int (Int32.ofNat (m_from S))) ∧ F' = F) := by
  refine Pm.of fun N => ?_
  obtain ⟨Q, hQ⟩ : ∃ Q : Option Value → FW → Prop, Q = (fun r F' => r = some (.int (Int32.ofNat (m_from S))) ∧ F' = F) := ⟨_, rfl⟩
  rw [← hQ]
  have b0 := hS.db
  refine (show Pv (ab_T L_X6_ferryShore) N 0 [some (.ref p)] [] F Q from ?_)
  refine Pv.aload rfl rfl ?_
  refine Pv.getI (z := Int32.ofNat (h_d S)) rfl rfl (hS.d) ?_
  refine Pv.lit rfl ?_
  refine Pv.irem (z := Int32.ofNat ((h_d S) % 2)) rfl (i_rem2 (by omega)) ?_
  exact Pv.ret rfl (by rw [hQ]; exact ⟨rfl, rfl⟩)
set_option maxRecDepth 100000 in
set_option maxHeartbeats 4000000 in
theorem f_isAlive {F : FW} {p n m : Nat} {S : Sh} (hS : SHR F p n S) (hm : m < n) (hn : n ≤ 8) : Pm Z_X6_isAlive [.ref p, .int (Int32.ofNat m)] F (fun r F' => r = some (.int (b2i (m_alive S m))) ∧ F' = F) := by
  refine Pm.of fun N => ?_
  obtain ⟨Q, hQ⟩ : ∃ Q : Option Value → FW → Prop, Q = (fun r F' => r = some (.int (b2i (m_alive S m))) ∧ F' = F) := ⟨_, rfl⟩
  rw [← hQ]
  refine (show Pv (ab_T L_X6_isAlive) N 0 [some (.ref p), some (.int (Int32.ofNat m))] [] F Q from ?_)
  refine Pv.aload rfl rfl ?_
  refine Pv.getR (v := .ref (p + 5)) rfl rfl (hS.o 4 (by decide)) ?_
  refine Pv.iload rfl rfl ?_
  refine Pv.ald (z := h_a S m) rfl (by rw [i_toNat (by omega)]; exact hS.a _ (by omega)) ?_
  refine Pv.lit rfl ?_
  refine Pv.icmp rfl (fun c1 => ?_) (fun c1 => ?_)
  · skip
    replace c1 := of_decide_eq_true c1
    refine Pv.lit rfl ?_
    exact Pv.zret rfl (by rw [hQ]; exact ⟨b2_f (by simp [m_alive, c1]), rfl⟩)
  · skip
    replace c1 := of_decide_eq_false c1
    refine Pv.lit rfl ?_
    refine Pv.goto rfl ?_
    exact Pv.zret rfl (by rw [hQ]; exact ⟨b2_t (by simp [m_alive, c1]), rfl⟩)
set_option maxRecDepth 100000 in
set_option maxHeartbeats 4000000 in
theorem f_apartOf {F : FW} {p n m o : Nat} {S : Sh} (hS : SHR F p n S) (hm : m < 8) (ho : o < 8) : Pm Z_X6_apartOf [.ref p, .int (Int32.ofNat m), .int (Int32.ofNat o)] F (fun r F' => r = some (.int (m_apart S m o)) ∧ F' = F) := by
  refine Pm.of fun N => ?_
  obtain ⟨Q, hQ⟩ : ∃ Q : Option Value → FW → Prop, Q = (fun r F' => r = some (.int (m_apart S m o)) ∧ F' = F) := ⟨_, rfl⟩
  rw [← hQ]
  refine (show Pv (ab_T L_X6_apartOf) N 0 [some (.ref p), some (.int (Int32.ofNat m)), some (.int (Int32.ofNat o))] [] F Q from ?_)
  refine Pv.iload rfl rfl ?_
  refine Pv.iload rfl rfl ?_
  refine Pv.icmp rfl (fun c1 => ?_) (fun c1 => ?_)
  · skip
    replace c1 := (i_le (a := m) (b := o) (by omega) (by omega)).mp (of_decide_eq_true c1)
    refine Pv.aload rfl rfl ?_
    refine Pv.getR (v := .ref (p + 7)) rfl rfl (hS.o 6 (by decide)) ?_
    refine Pv.iload rfl rfl ?_
    refine Pv.lit rfl ?_
    refine Pv.bin (z := Int32.ofNat (o * 8)) rfl (i_mul o 8) ?_
    refine Pv.iload rfl rfl ?_
    refine Pv.bin (z := Int32.ofNat ((o * 8) + m)) rfl (i_add (o * 8) m) ?_
    refine Pv.ald (z := h_p S ((o * 8) + m)) rfl (by rw [i_toNat (by omega)]; exact hS.p _ (by omega)) ?_
    exact Pv.ret rfl (by rw [hQ]; exact ⟨by rw [show m_apart S m o = h_p S ((o * 8) + m) from if_neg (by omega)], rfl⟩)
  · skip
    replace c1 := mt (i_le (a := m) (b := o) (by omega) (by omega)).mpr (of_decide_eq_false c1)
    refine Pv.aload rfl rfl ?_
    refine Pv.getR (v := .ref (p + 7)) rfl rfl (hS.o 6 (by decide)) ?_
    refine Pv.iload rfl rfl ?_
    refine Pv.lit rfl ?_
    refine Pv.bin (z := Int32.ofNat (m * 8)) rfl (i_mul m 8) ?_
    refine Pv.iload rfl rfl ?_
    refine Pv.bin (z := Int32.ofNat ((m * 8) + o)) rfl (i_add (m * 8) o) ?_
    refine Pv.ald (z := h_p S ((m * 8) + o)) rfl (by rw [i_toNat (by omega)]; exact hS.p _ (by omega)) ?_
    refine Pv.goto rfl ?_
    exact Pv.ret rfl (by rw [hQ]; exact ⟨by rw [show m_apart S m o = h_p S ((m * 8) + o) from if_pos (by omega)], rfl⟩)
set_option maxRecDepth 100000 in
set_option maxHeartbeats 4000000 in
theorem f_lackAt {F : FW} {t p k : Nat} {T : St} {S : Sh} (hT : TR F t T) (hS : SHR F p (t_m T) S) (hk : k < 12) : Pm Z_X6_lackAt [.ref p, .ref t, .int (Int32.ofNat k)] F (fun r F' => r = some (.int (m_lack T S k)) ∧ F' = F) := by
  refine Pm.of fun N => ?_
  obtain ⟨Q, hQ⟩ : ∃ Q : Option Value → FW → Prop, Q = (fun r F' => r = some (.int (m_lack T S k)) ∧ F' = F) := ⟨_, rfl⟩
  rw [← hQ]
  refine (show Pv (ab_T (L_X6_lackAt Z_X7_amountOf)) N 0 [some (.ref p), some (.ref t), some (.int (Int32.ofNat k))] [] F Q from ?_)
  refine Pv.lit rfl ?_
  refine Pv.aload rfl rfl ?_
  refine Pv.lit rfl ?_
  refine Pv.iload rfl rfl ?_
  refine Pv.callVI (as := [.ref t, .int 1, .int (Int32.ofNat k)]) (rest := [.int 0]) (z := t_a T (1 * 12 + k)) rfl rfl rfl (f_amountOf (s := 1) (k := k) hT (by omega)) ?_
  refine Pv.aload rfl rfl ?_
  refine Pv.getR (v := .ref (p + 1)) rfl rfl (hS.o 0 (by decide)) ?_
  refine Pv.iload rfl rfl ?_
  refine Pv.ald (z := h_s S k) rfl (by rw [i_toNat (by omega)]; exact hS.s _ (by omega)) ?_
  refine Pv.bin (z := (t_a T (1 * 12 + k)) - (h_s S k)) rfl (rfl) ?_
  refine Pv.mm (z := ab_max 0 ((t_a T (1 * 12 + k)) - (h_s S k))) rfl (rfl) ?_
  exact Pv.ret rfl (by rw [hQ]; exact ⟨rfl, rfl⟩)
set_option maxRecDepth 100000 in
set_option maxHeartbeats 4000000 in
theorem f_isFalse {F : FW} {t p k : Nat} {T : St} {S : Sh} (hT : TR F t T) (hS : SHR F p (t_m T) S) (hk : k < 12) : Pm Z_X6_isFalse [.ref p, .ref t, .int (Int32.ofNat k)] F (fun r F' => r = some (.int (b2i (m_false T S k))) ∧ F' = F) := by
  refine Pm.of fun N => ?_
  obtain ⟨Q, hQ⟩ : ∃ Q : Option Value → FW → Prop, Q = (fun r F' => r = some (.int (b2i (m_false T S k))) ∧ F' = F) := ⟨_, rfl⟩
  rw [← hQ]
  refine (show Pv (ab_T (L_X6_isFalse Z_X7_amountOf)) N 0 [some (.ref p), some (.ref t), some (.int (Int32.ofNat k)), none] [] F Q from ?_)
  refine Pv.aload rfl rfl ?_
  refine Pv.lit rfl ?_
  refine Pv.iload rfl rfl ?_
  refine Pv.callVI (as := [.ref t, .int 1, .int (Int32.ofNat k)]) (rest := []) (z := t_a T (1 * 12 + k)) rfl rfl rfl (f_amountOf (s := 1) (k := k) hT (by omega)) ?_
  refine Pv.istore (lo' := [some (.ref p), some (.ref t), some (.int (Int32.ofNat k)), some (.int (t_a T (1 * 12 + k)))]) rfl rfl ?_
  refine Pv.aload rfl rfl ?_
  refine Pv.getR (v := .ref (p + 1)) rfl rfl (hS.o 0 (by decide)) ?_
  refine Pv.iload rfl rfl ?_
  refine Pv.ald (z := h_s S k) rfl (by rw [i_toNat (by omega)]; exact hS.s _ (by omega)) ?_
  refine Pv.iload rfl rfl ?_
  refine Pv.icmp rfl (fun c1 => ?_) (fun c1 => ?_)
  · skip
    replace c1 := of_decide_eq_true c1
    refine Pv.lit rfl ?_
    exact Pv.zret rfl (by rw [hQ]; exact ⟨b2_f (by simp [m_false, c1]), rfl⟩)
  · skip
    replace c1 := of_decide_eq_false c1
    refine Pv.aload rfl rfl ?_
    refine Pv.getR (v := .ref (p + 1)) rfl rfl (hS.o 0 (by decide)) ?_
    refine Pv.iload rfl rfl ?_
    refine Pv.ald (z := h_s S k) rfl (by rw [i_toNat (by omega)]; exact hS.s _ (by omega)) ?_
    refine Pv.aload rfl rfl ?_
    refine Pv.getR (v := .ref (p + 2)) rfl rfl (hS.o 1 (by decide)) ?_
    refine Pv.iload rfl rfl ?_
    refine Pv.ald (z := h_h S k) rfl (by rw [i_toNat (by omega)]; exact hS.h _ (by omega)) ?_
    refine Pv.bin (z := (h_s S k) + (h_h S k)) rfl (rfl) ?_
    refine Pv.iload rfl rfl ?_
    refine Pv.icmp rfl (fun c2 => ?_) (fun c2 => ?_)
    · skip
      replace c2 := of_decide_eq_true c2
      refine Pv.lit rfl ?_
      exact Pv.zret rfl (by rw [hQ]; exact ⟨b2_f (by simp [m_false, c1, c2]), rfl⟩)
    · skip
      replace c2 := of_decide_eq_false c2
      refine Pv.lit rfl ?_
      refine Pv.goto rfl ?_
      exact Pv.zret rfl (by rw [hQ]; exact ⟨b2_t (by simp [m_false, c1, c2]), rfl⟩)
set_option maxRecDepth 100000 in
set_option maxHeartbeats 4000000 in
theorem f_isFelt {F : FW} {t p k : Nat} {T : St} {S : Sh} (hT : TR F t T) (hS : SHR F p (t_m T) S) (hk : k < t_n T) : Pm Z_X6_isFelt [.ref p, .ref t, .int (Int32.ofNat k)] F (fun r F' => r = some (.int (b2i (m_felt T S k))) ∧ F' = F) := by
  refine Pm.of fun N => ?_
  obtain ⟨Q, hQ⟩ : ∃ Q : Option Value → FW → Prop, Q = (fun r F' => r = some (.int (b2i (m_felt T S k))) ∧ F' = F) := ⟨_, rfl⟩
  rw [← hQ]
  have b1 := hT.rb hk
  have b2 := hT.db hk
  have b3 := hT.mb
  have b4 := hT.nb
  refine (show Pv (ab_T (L_X6_isFelt Z_X6_apartOf)) N 0 [some (.ref p), some (.ref t), some (.int (Int32.ofNat k)), none, none, none] [] F Q from ?_)
  refine Pv.aload rfl rfl ?_
  refine Pv.getR (v := .ref (t + 5)) rfl rfl (hT.o 4 (by decide)) ?_
  refine Pv.iload rfl rfl ?_
  refine Pv.ald (z := Int32.ofNat (t_r T k)) rfl (by rw [i_toNat (by omega)]; exact hT.r _ (by omega)) ?_
  refine Pv.istore (lo' := [some (.ref p), some (.ref t), some (.int (Int32.ofNat k)), some (.int (Int32.ofNat (t_r T k))), none, none]) rfl rfl ?_
  refine Pv.aload rfl rfl ?_
  refine Pv.getR (v := .ref (t + 6)) rfl rfl (hT.o 5 (by decide)) ?_
  refine Pv.iload rfl rfl ?_
  refine Pv.ald (z := Int32.ofNat (t_d T k)) rfl (by rw [i_toNat (by omega)]; exact hT.d _ (by omega)) ?_
  refine Pv.istore (lo' := [some (.ref p), some (.ref t), some (.int (Int32.ofNat k)), some (.int (Int32.ofNat (t_r T k))), some (.int (Int32.ofNat (t_d T k))), none]) rfl rfl ?_
  refine Pv.aload rfl rfl ?_
  refine Pv.getR (v := .ref (p + 5)) rfl rfl (hS.o 4 (by decide)) ?_
  refine Pv.iload rfl rfl ?_
  refine Pv.ald (z := h_a S (t_r T k)) rfl (by rw [i_toNat (by omega)]; exact hS.a _ (by omega)) ?_
  refine Pv.lit rfl ?_
  refine Pv.icmp rfl (fun c1 => ?_) (fun c1 => ?_)
  · skip
    replace c1 := of_decide_eq_true c1
    refine Pv.lit rfl ?_
    refine Pv.istore (lo' := [some (.ref p), some (.ref t), some (.int (Int32.ofNat k)), some (.int (Int32.ofNat (t_r T k))), some (.int (Int32.ofNat (t_d T k))), some (.int 0)]) rfl rfl ?_
    refine Pv.iload rfl rfl ?_
    refine Pv.if0 rfl (fun c2 => ?_) (fun c2 => ?_)
    · skip
      replace c2 := (i_eq (a := 0) (b := 0) (by omega) (by omega)).mp (of_decide_eq_true c2)
      refine Pv.lit rfl ?_
      exact Pv.zret rfl (by rw [hQ]; exact ⟨b2_f (by simp [m_felt, m_alive, c1, c2]), rfl⟩)
    · skip
      replace c2 := mt (i_eq (a := 0) (b := 0) (by omega) (by omega)).mpr (of_decide_eq_false c2)
      omega
  · skip
    replace c1 := of_decide_eq_false c1
    refine Pv.aload rfl rfl ?_
    refine Pv.getR (v := .ref (p + 5)) rfl rfl (hS.o 4 (by decide)) ?_
    refine Pv.iload rfl rfl ?_
    refine Pv.ald (z := h_a S (t_d T k)) rfl (by rw [i_toNat (by omega)]; exact hS.a _ (by omega)) ?_
    refine Pv.lit rfl ?_
    refine Pv.icmp rfl (fun c3 => ?_) (fun c3 => ?_)
    · skip
      replace c3 := of_decide_eq_true c3
      refine Pv.lit rfl ?_
      refine Pv.istore (lo' := [some (.ref p), some (.ref t), some (.int (Int32.ofNat k)), some (.int (Int32.ofNat (t_r T k))), some (.int (Int32.ofNat (t_d T k))), some (.int 0)]) rfl rfl ?_
      refine Pv.iload rfl rfl ?_
      refine Pv.if0 rfl (fun c4 => ?_) (fun c4 => ?_)
      · skip
        replace c4 := (i_eq (a := 0) (b := 0) (by omega) (by omega)).mp (of_decide_eq_true c4)
        refine Pv.lit rfl ?_
        exact Pv.zret rfl (by rw [hQ]; exact ⟨b2_f (by simp [m_felt, m_alive, c1, c3, c4]), rfl⟩)
      · skip
        replace c4 := mt (i_eq (a := 0) (b := 0) (by omega) (by omega)).mpr (of_decide_eq_false c4)
        omega
    · skip
      replace c3 := of_decide_eq_false c3
      refine Pv.lit rfl ?_
      refine Pv.goto rfl ?_
      refine Pv.istore (lo' := [some (.ref p), some (.ref t), some (.int (Int32.ofNat k)), some (.int (Int32.ofNat (t_r T k))), some (.int (Int32.ofNat (t_d T k))), some (.int 1)]) rfl rfl ?_
      refine Pv.iload rfl rfl ?_
      refine Pv.if0 rfl (fun c5 => ?_) (fun c5 => ?_)
      · skip
        replace c5 := (i_eq (a := 1) (b := 0) (by omega) (by omega)).mp (of_decide_eq_true c5)
        omega
      · skip
        replace c5 := mt (i_eq (a := 1) (b := 0) (by omega) (by omega)).mpr (of_decide_eq_false c5)
        refine Pv.aload rfl rfl ?_
        refine Pv.getR (v := .ref (p + 5)) rfl rfl (hS.o 4 (by decide)) ?_
        refine Pv.iload rfl rfl ?_
        refine Pv.ald (z := h_a S (t_r T k)) rfl (by rw [i_toNat (by omega)]; exact hS.a _ (by omega)) ?_
        refine Pv.aload rfl rfl ?_
        refine Pv.getR (v := .ref (p + 5)) rfl rfl (hS.o 4 (by decide)) ?_
        refine Pv.iload rfl rfl ?_
        refine Pv.ald (z := h_a S (t_d T k)) rfl (by rw [i_toNat (by omega)]; exact hS.a _ (by omega)) ?_
        refine Pv.icmp rfl (fun c6 => ?_) (fun c6 => ?_)
        · skip
          replace c6 := of_decide_eq_true c6
          refine Pv.lit rfl ?_
          exact Pv.zret rfl (by rw [hQ]; exact ⟨b2_f (by simp [m_felt, m_alive, c1, c3, c5, c6]), rfl⟩)
        · skip
          replace c6 := of_decide_eq_false c6
          refine Pv.aload rfl rfl ?_
          refine Pv.iload rfl rfl ?_
          refine Pv.iload rfl rfl ?_
          refine Pv.callVI (as := [.ref p, .int (Int32.ofNat (t_r T k)), .int (Int32.ofNat (t_d T k))]) (rest := []) (z := m_apart S (t_r T k) (t_d T k)) rfl rfl rfl (f_apartOf (m := t_r T k) (o := t_d T k) hS (by omega) (by omega)) ?_
          refine Pv.aload rfl rfl ?_
          refine Pv.getR (v := .ref (t + 7)) rfl rfl (hT.o 6 (by decide)) ?_
          refine Pv.iload rfl rfl ?_
          refine Pv.ald (z := t_dd T k) rfl (by rw [i_toNat (by omega)]; exact hT.dd _ (by omega)) ?_
          refine Pv.icmp rfl (fun c7 => ?_) (fun c7 => ?_)
          · skip
            replace c7 := of_decide_eq_true c7
            refine Pv.lit rfl ?_
            exact Pv.zret rfl (by rw [hQ]; exact ⟨b2_f (by simp [m_felt, m_alive, c1, c3, c5, c6, c7]), rfl⟩)
          · skip
            replace c7 := of_decide_eq_false c7
            refine Pv.lit rfl ?_
            refine Pv.goto rfl ?_
            exact Pv.zret rfl (by rw [hQ]; exact ⟨b2_t (by simp [m_felt, m_alive, c1, c3, c5, c6, c7]), rfl⟩)
end
-- 63.b47.m2.lean.txt
section
set_option maxRecDepth 100000 in
set_option maxHeartbeats 4000000 in
theorem f_allMissed {F : FW} {t p : Nat} {T : St} {S : Sh} (hT : TR F t T) (hS : SHR F p (t_m T) S) : Pm Z_X6_allMissed [.ref p, .ref t] F (fun r F' => r = some (.int (m_missed T S)) ∧ F' = F) := by
  refine Pm.of fun N => ?_
  obtain ⟨Q, hQ⟩ : ∃ Q : Option Value → FW → Prop, Q = (fun r F' => r = some (.int (m_missed T S)) ∧ F' = F) := ⟨_, rfl⟩
  rw [← hQ]
  have b3 := hT.mb
  have b4 := hT.nb
  have b5 := hT.gb
  refine (show Pv (ab_T (L_X6_allMissed Z_X6_isFelt)) N 0 [some (.ref p), some (.ref t), none, none] [] F Q from ?_)
  refine Pv.lit rfl ?_
  refine Pv.istore (lo' := [some (.ref p), some (.ref t), some (.int 0), none]) rfl rfl ?_
  refine Pv.lit rfl ?_
  refine Pv.istore (lo' := [some (.ref p), some (.ref t), some (.int 0), some (.int 0)]) rfl rfl ?_
  refine Pv.lp (ι := Nat × Int32) (lof := fun ⟨k, b⟩ => [some (.ref p), some (.ref t), some (.int b), some (.int (Int32.ofNat k))]) (Ff := fun ⟨k, b⟩ => F) (P := fun ⟨k, b⟩ => k ≤ t_n T ∧ b = m_bits (m_felt T S) (t_d T) k) ?_ (0, 0) (⟨Nat.zero_le _, rfl⟩)
  rintro N1 hN2 ⟨k, b⟩ hi3 ih4
  refine (show Pv _ _ 4 [some (.ref p), some (.ref t), some (.int b), some (.int (Int32.ofNat k))] [] F Q from ?_)
  obtain ⟨hk, hb⟩ := hi3
  refine Pv.iloadS rfl rfl ?_
  refine Pv.aload rfl rfl ?_
  refine Pv.getI (z := Int32.ofNat (t_n T)) rfl rfl (hT.n) ?_
  refine Pv.icmp rfl (fun c5 => ?_) (fun c5 => ?_)
  · skip
    replace c5 := (i_le (a := t_n T) (b := k) (by omega) (by omega)).mp (of_decide_eq_true c5)
    refine Pv.iload rfl rfl ?_
    exact Pv.ret rfl (by rw [hQ]; exact ⟨by rw [hb, show k = t_n T by omega]; rfl, rfl⟩)
  · skip
    replace c5 := mt (i_le (a := t_n T) (b := k) (by omega) (by omega)).mpr (of_decide_eq_false c5)
    have b1 := hT.rb (show k < t_n T by omega)
    have b2 := hT.db (show k < t_n T by omega)
    refine Pv.aload rfl rfl ?_
    refine Pv.aload rfl rfl ?_
    refine Pv.iload rfl rfl ?_
    refine Pv.callVI (as := [.ref p, .ref t, .int (Int32.ofNat k)]) (rest := []) (z := b2i (m_felt T S k)) rfl rfl rfl (f_isFelt (k := k) hT hS (by omega)) ?_
    refine Pv.if0 rfl (fun c6 => ?_) (fun c6 => ?_)
    · skip
      replace c6 := of_decide_eq_true c6
      replace c6 := b2z.mp c6
      refine Pv.iinc (y := Int32.ofNat (k + 1)) (lo' := [some (.ref p), some (.ref t), some (.int b), some (.int (Int32.ofNat (k + 1)))]) rfl rfl (i_add k 1) rfl ?_
      refine Pv.goto rfl ?_
      exact ih4 (k + 1, b) (⟨by omega, hb.trans (m_bits_f (by simp [c5, c6])).symm⟩)
    · skip
      replace c6 := of_decide_eq_false c6
      replace c6 := b2n.mp c6
      refine Pv.iload rfl rfl ?_
      refine Pv.lit rfl ?_
      refine Pv.aload rfl rfl ?_
      refine Pv.getR (v := .ref (t + 6)) rfl rfl (hT.o 5 (by decide)) ?_
      refine Pv.iload rfl rfl ?_
      refine Pv.ald (z := Int32.ofNat (t_d T k)) rfl (by rw [i_toNat (by omega)]; exact hT.d _ (by omega)) ?_
      refine Pv.bin (z := 1 <<< ((Int32.ofNat (t_d T k)) &&& 31)) rfl (rfl) ?_
      refine Pv.bin (z := b ||| (1 <<< ((Int32.ofNat (t_d T k)) &&& 31))) rfl (rfl) ?_
      refine Pv.istore (lo' := [some (.ref p), some (.ref t), some (.int (b ||| (1 <<< ((Int32.ofNat (t_d T k)) &&& 31)))), some (.int (Int32.ofNat k))]) rfl rfl ?_
      refine Pv.iinc (y := Int32.ofNat (k + 1)) (lo' := [some (.ref p), some (.ref t), some (.int (b ||| (1 <<< ((Int32.ofNat (t_d T k)) &&& 31)))), some (.int (Int32.ofNat (k + 1)))]) rfl rfl (i_add k 1) rfl ?_
      refine Pv.goto rfl ?_
      exact ih4 (k + 1, b ||| (1 <<< ((Int32.ofNat (t_d T k)) &&& 31))) (⟨by omega, by rw [m_bits_t (f := m_felt T S) (g := t_d T) (k := k) (by simp [c5, c6]), hb]; try rfl⟩)
set_option maxRecDepth 100000 in
set_option maxHeartbeats 4000000 in
theorem f_missersOf {F : FW} {t p m : Nat} {T : St} {S : Sh} (hT : TR F t T) (hS : SHR F p (t_m T) S) (hm : m < 8) : Pm Z_X6_missersOf [.ref p, .ref t, .int (Int32.ofNat m)] F (fun r F' => r = some (.int (m_missers T S m)) ∧ F' = F) := by
  refine Pm.of fun N => ?_
  obtain ⟨Q, hQ⟩ : ∃ Q : Option Value → FW → Prop, Q = (fun r F' => r = some (.int (m_missers T S m)) ∧ F' = F) := ⟨_, rfl⟩
  rw [← hQ]
  have b3 := hT.mb
  have b4 := hT.nb
  have b5 := hT.gb
  refine (show Pv (ab_T (L_X6_missersOf Z_X6_isFelt)) N 0 [some (.ref p), some (.ref t), some (.int (Int32.ofNat m)), none, none] [] F Q from ?_)
  refine Pv.lit rfl ?_
  refine Pv.istore (lo' := [some (.ref p), some (.ref t), some (.int (Int32.ofNat m)), some (.int 0), none]) rfl rfl ?_
  refine Pv.lit rfl ?_
  refine Pv.istore (lo' := [some (.ref p), some (.ref t), some (.int (Int32.ofNat m)), some (.int 0), some (.int 0)]) rfl rfl ?_
  refine Pv.lp (ι := Nat × Int32) (lof := fun ⟨k, b⟩ => [some (.ref p), some (.ref t), some (.int (Int32.ofNat m)), some (.int b), some (.int (Int32.ofNat k))]) (Ff := fun ⟨k, b⟩ => F) (P := fun ⟨k, b⟩ => k ≤ t_n T ∧ b = m_bits ((fun k => decide (t_d T k = m) && m_felt T S k)) (t_r T) k) ?_ (0, 0) (⟨Nat.zero_le _, rfl⟩)
  rintro N1 hN2 ⟨k, b⟩ hi3 ih4
  refine (show Pv _ _ 5 [some (.ref p), some (.ref t), some (.int (Int32.ofNat m)), some (.int b), some (.int (Int32.ofNat k))] [] F Q from ?_)
  obtain ⟨hk, hb⟩ := hi3
  refine Pv.iloadS rfl rfl ?_
  refine Pv.aload rfl rfl ?_
  refine Pv.getI (z := Int32.ofNat (t_n T)) rfl rfl (hT.n) ?_
  refine Pv.icmp rfl (fun c5 => ?_) (fun c5 => ?_)
  · skip
    replace c5 := (i_le (a := t_n T) (b := k) (by omega) (by omega)).mp (of_decide_eq_true c5)
    refine Pv.iload rfl rfl ?_
    exact Pv.ret rfl (by rw [hQ]; exact ⟨by rw [hb, show k = t_n T by omega]; rfl, rfl⟩)
  · skip
    replace c5 := mt (i_le (a := t_n T) (b := k) (by omega) (by omega)).mpr (of_decide_eq_false c5)
    have b1 := hT.rb (show k < t_n T by omega)
    have b2 := hT.db (show k < t_n T by omega)
    refine Pv.aload rfl rfl ?_
    refine Pv.getR (v := .ref (t + 6)) rfl rfl (hT.o 5 (by decide)) ?_
    refine Pv.iload rfl rfl ?_
    refine Pv.ald (z := Int32.ofNat (t_d T k)) rfl (by rw [i_toNat (by omega)]; exact hT.d _ (by omega)) ?_
    refine Pv.iload rfl rfl ?_
    refine Pv.icmp rfl (fun c6 => ?_) (fun c6 => ?_)
    · skip
      replace c6 : decide (Int32.ofNat (t_d T k) = Int32.ofNat m) = false := by simpa using c6
      replace c6 := mt (i_eq (a := t_d T k) (b := m) (by omega) (by omega)).mpr (of_decide_eq_false c6)
      refine Pv.iinc (y := Int32.ofNat (k + 1)) (lo' := [some (.ref p), some (.ref t), some (.int (Int32.ofNat m)), some (.int b), some (.int (Int32.ofNat (k + 1)))]) rfl rfl (i_add k 1) rfl ?_
      refine Pv.goto rfl ?_
      exact ih4 (k + 1, b) (⟨by omega, hb.trans (m_bits_f (by simp [c5, c6])).symm⟩)
    · skip
      replace c6 : decide (Int32.ofNat (t_d T k) = Int32.ofNat m) = true := by simpa using c6
      replace c6 := (i_eq (a := t_d T k) (b := m) (by omega) (by omega)).mp (of_decide_eq_true c6)
      refine Pv.aload rfl rfl ?_
      refine Pv.aload rfl rfl ?_
      refine Pv.iload rfl rfl ?_
      refine Pv.callVI (as := [.ref p, .ref t, .int (Int32.ofNat k)]) (rest := []) (z := b2i (m_felt T S k)) rfl rfl rfl (f_isFelt (k := k) hT hS (by omega)) ?_
      refine Pv.if0 rfl (fun c7 => ?_) (fun c7 => ?_)
      · skip
        replace c7 := of_decide_eq_true c7
        replace c7 := b2z.mp c7
        refine Pv.iinc (y := Int32.ofNat (k + 1)) (lo' := [some (.ref p), some (.ref t), some (.int (Int32.ofNat m)), some (.int b), some (.int (Int32.ofNat (k + 1)))]) rfl rfl (i_add k 1) rfl ?_
        refine Pv.goto rfl ?_
        exact ih4 (k + 1, b) (⟨by omega, hb.trans (m_bits_f (by simp [c5, c6, c7])).symm⟩)
      · skip
        replace c7 := of_decide_eq_false c7
        replace c7 := b2n.mp c7
        refine Pv.iload rfl rfl ?_
        refine Pv.lit rfl ?_
        refine Pv.aload rfl rfl ?_
        refine Pv.getR (v := .ref (t + 5)) rfl rfl (hT.o 4 (by decide)) ?_
        refine Pv.iload rfl rfl ?_
        refine Pv.ald (z := Int32.ofNat (t_r T k)) rfl (by rw [i_toNat (by omega)]; exact hT.r _ (by omega)) ?_
        refine Pv.bin (z := 1 <<< ((Int32.ofNat (t_r T k)) &&& 31)) rfl (rfl) ?_
        refine Pv.bin (z := b ||| (1 <<< ((Int32.ofNat (t_r T k)) &&& 31))) rfl (rfl) ?_
        refine Pv.istore (lo' := [some (.ref p), some (.ref t), some (.int (Int32.ofNat m)), some (.int (b ||| (1 <<< ((Int32.ofNat (t_r T k)) &&& 31)))), some (.int (Int32.ofNat k))]) rfl rfl ?_
        refine Pv.iinc (y := Int32.ofNat (k + 1)) (lo' := [some (.ref p), some (.ref t), some (.int (Int32.ofNat m)), some (.int (b ||| (1 <<< ((Int32.ofNat (t_r T k)) &&& 31)))), some (.int (Int32.ofNat (k + 1)))]) rfl rfl (i_add k 1) rfl ?_
        refine Pv.goto rfl ?_
        exact ih4 (k + 1, b ||| (1 <<< ((Int32.ofNat (t_r T k)) &&& 31))) (⟨by omega, by rw [m_bits_t (f := (fun k => decide (t_d T k = m) && m_felt T S k)) (g := t_r T) (k := k) (by simp [c5, c6, c7]), hb]; try rfl⟩)
set_option maxRecDepth 100000 in
set_option maxHeartbeats 4000000 in
theorem f_menOn {F : FW} {t p : Nat} {T : St} {S : Sh} (hT : TR F t T) (hS : SHR F p (t_m T) S){x : Int32} : Pm Z_X6_menOn [.ref p, .ref t, .int x] F (fun r F' => r = some (.int (m_men T S x)) ∧ F' = F) := by
  refine Pm.of fun N => ?_
  obtain ⟨Q, hQ⟩ : ∃ Q : Option Value → FW → Prop, Q = (fun r F' => r = some (.int (m_men T S x)) ∧ F' = F) := ⟨_, rfl⟩
  rw [← hQ]
  have b3 := hT.mb
  have b4 := hT.nb
  have b5 := hT.gb
  refine (show Pv (ab_T L_X6_menOn) N 0 [some (.ref p), some (.ref t), some (.int x), none, none] [] F Q from ?_)
  refine Pv.lit rfl ?_
  refine Pv.istore (lo' := [some (.ref p), some (.ref t), some (.int x), some (.int 0), none]) rfl rfl ?_
  refine Pv.lit rfl ?_
  refine Pv.istore (lo' := [some (.ref p), some (.ref t), some (.int x), some (.int 0), some (.int 0)]) rfl rfl ?_
  refine Pv.lp (ι := Nat × Int32) (lof := fun ⟨k, b⟩ => [some (.ref p), some (.ref t), some (.int x), some (.int b), some (.int (Int32.ofNat k))]) (Ff := fun ⟨k, b⟩ => F) (P := fun ⟨k, b⟩ => k ≤ t_m T ∧ b = m_bits ((fun m => decide (h_a S m = x))) (id) k) ?_ (0, 0) (⟨Nat.zero_le _, rfl⟩)
  rintro N1 hN2 ⟨k, b⟩ hi3 ih4
  refine (show Pv _ _ 5 [some (.ref p), some (.ref t), some (.int x), some (.int b), some (.int (Int32.ofNat k))] [] F Q from ?_)
  obtain ⟨hk, hb⟩ := hi3
  refine Pv.iloadS rfl rfl ?_
  refine Pv.aload rfl rfl ?_
  refine Pv.getI (z := Int32.ofNat (t_m T)) rfl rfl (hT.m) ?_
  refine Pv.icmp rfl (fun c5 => ?_) (fun c5 => ?_)
  · skip
    replace c5 := (i_le (a := t_m T) (b := k) (by omega) (by omega)).mp (of_decide_eq_true c5)
    refine Pv.iload rfl rfl ?_
    exact Pv.ret rfl (by rw [hQ]; exact ⟨by rw [hb, show k = t_m T by omega]; rfl, rfl⟩)
  · skip
    replace c5 := mt (i_le (a := t_m T) (b := k) (by omega) (by omega)).mpr (of_decide_eq_false c5)
    refine Pv.aload rfl rfl ?_
    refine Pv.getR (v := .ref (p + 5)) rfl rfl (hS.o 4 (by decide)) ?_
    refine Pv.iload rfl rfl ?_
    refine Pv.ald (z := h_a S k) rfl (by rw [i_toNat (by omega)]; exact hS.a _ (by omega)) ?_
    refine Pv.iload rfl rfl ?_
    refine Pv.icmp rfl (fun c6 => ?_) (fun c6 => ?_)
    · skip
      replace c6 : decide (h_a S k = x) = false := by simpa using c6
      replace c6 := of_decide_eq_false c6
      refine Pv.iinc (y := Int32.ofNat (k + 1)) (lo' := [some (.ref p), some (.ref t), some (.int x), some (.int b), some (.int (Int32.ofNat (k + 1)))]) rfl rfl (i_add k 1) rfl ?_
      refine Pv.goto rfl ?_
      exact ih4 (k + 1, b) (⟨by omega, hb.trans (m_bits_f (by simp [c5, c6])).symm⟩)
    · skip
      replace c6 : decide (h_a S k = x) = true := by simpa using c6
      replace c6 := of_decide_eq_true c6
      refine Pv.iload rfl rfl ?_
      refine Pv.lit rfl ?_
      refine Pv.iload rfl rfl ?_
      refine Pv.bin (z := 1 <<< ((Int32.ofNat k) &&& 31)) rfl (rfl) ?_
      refine Pv.bin (z := b ||| (1 <<< ((Int32.ofNat k) &&& 31))) rfl (rfl) ?_
      refine Pv.istore (lo' := [some (.ref p), some (.ref t), some (.int x), some (.int (b ||| (1 <<< ((Int32.ofNat k) &&& 31)))), some (.int (Int32.ofNat k))]) rfl rfl ?_
      refine Pv.iinc (y := Int32.ofNat (k + 1)) (lo' := [some (.ref p), some (.ref t), some (.int x), some (.int (b ||| (1 <<< ((Int32.ofNat k) &&& 31)))), some (.int (Int32.ofNat (k + 1)))]) rfl rfl (i_add k 1) rfl ?_
      refine Pv.goto rfl ?_
      exact ih4 (k + 1, b ||| (1 <<< ((Int32.ofNat k) &&& 31))) (⟨by omega, by rw [m_bits_t (f := (fun m => decide (h_a S m = x))) (g := id) (k := k) (by simp [c5, c6]), hb]; try rfl⟩)
set_option maxRecDepth 100000 in
set_option maxHeartbeats 4000000 in
theorem f_couldBeMissed {F : FW} {t p m : Nat} {T : St} {S : Sh} (hT : TR F t T) (hS : SHR F p (t_m T) S) (hm : m < 8) : Pm Z_X6_couldBeMissed [.ref p, .ref t, .int (Int32.ofNat m)] F (fun r F' => r = some (.int (b2i (m_could T S m (t_n T)))) ∧ F' = F) := by
  refine Pm.of fun N => ?_
  obtain ⟨Q, hQ⟩ : ∃ Q : Option Value → FW → Prop, Q = (fun r F' => r = some (.int (b2i (m_could T S m (t_n T)))) ∧ F' = F) := ⟨_, rfl⟩
  rw [← hQ]
  have b3 := hT.mb
  have b4 := hT.nb
  refine (show Pv (ab_T (L_X6_couldBeMissed Z_X6_isAlive)) N 0 [some (.ref p), some (.ref t), some (.int (Int32.ofNat m)), none] [] F Q from ?_)
  refine Pv.lit rfl ?_
  refine Pv.istore (lo' := [some (.ref p), some (.ref t), some (.int (Int32.ofNat m)), some (.int 0)]) rfl rfl ?_
  refine Pv.lp (ι := Nat) (lof := fun k => [some (.ref p), some (.ref t), some (.int (Int32.ofNat m)), some (.int (Int32.ofNat k))]) (Ff := fun k => F) (P := fun k => k ≤ t_n T ∧ m_could T S m k = false) ?_ 0 (⟨Nat.zero_le _, rfl⟩)
  rintro N1 hN2 k hi3 ih4
  refine (show Pv _ _ 2 [some (.ref p), some (.ref t), some (.int (Int32.ofNat m)), some (.int (Int32.ofNat k))] [] F Q from ?_)
  obtain ⟨hk, hb⟩ := hi3
  refine Pv.iloadS rfl rfl ?_
  refine Pv.aload rfl rfl ?_
  refine Pv.getI (z := Int32.ofNat (t_n T)) rfl rfl (hT.n) ?_
  refine Pv.icmp rfl (fun c5 => ?_) (fun c5 => ?_)
  · skip
    replace c5 := (i_le (a := t_n T) (b := k) (by omega) (by omega)).mp (of_decide_eq_true c5)
    refine Pv.lit rfl ?_
    exact Pv.zret rfl (by rw [hQ]; exact ⟨b2_f (by rw [show t_n T = k by omega]; exact hb), rfl⟩)
  · skip
    replace c5 := mt (i_le (a := t_n T) (b := k) (by omega) (by omega)).mpr (of_decide_eq_false c5)
    have b1 := hT.rb (show k < t_n T by omega)
    have b2 := hT.db (show k < t_n T by omega)
    refine Pv.aload rfl rfl ?_
    refine Pv.getR (v := .ref (t + 6)) rfl rfl (hT.o 5 (by decide)) ?_
    refine Pv.iload rfl rfl ?_
    refine Pv.ald (z := Int32.ofNat (t_d T k)) rfl (by rw [i_toNat (by omega)]; exact hT.d _ (by omega)) ?_
    refine Pv.iload rfl rfl ?_
    refine Pv.icmp rfl (fun c6 => ?_) (fun c6 => ?_)
    · skip
      replace c6 : decide (Int32.ofNat (t_d T k) = Int32.ofNat m) = false := by simpa using c6
      replace c6 := mt (i_eq (a := t_d T k) (b := m) (by omega) (by omega)).mpr (of_decide_eq_false c6)
      refine Pv.iinc (y := Int32.ofNat (k + 1)) (lo' := [some (.ref p), some (.ref t), some (.int (Int32.ofNat m)), some (.int (Int32.ofNat (k + 1)))]) rfl rfl (i_add k 1) rfl ?_
      refine Pv.goto rfl ?_
      exact ih4 (k + 1) (⟨by omega, by show (_ || _) = false; simp [hb, c5, c6]⟩)
    · skip
      replace c6 : decide (Int32.ofNat (t_d T k) = Int32.ofNat m) = true := by simpa using c6
      replace c6 := (i_eq (a := t_d T k) (b := m) (by omega) (by omega)).mp (of_decide_eq_true c6)
      refine Pv.aload rfl rfl ?_
      refine Pv.aload rfl rfl ?_
      refine Pv.getR (v := .ref (t + 5)) rfl rfl (hT.o 4 (by decide)) ?_
      refine Pv.iload rfl rfl ?_
      refine Pv.ald (z := Int32.ofNat (t_r T k)) rfl (by rw [i_toNat (by omega)]; exact hT.r _ (by omega)) ?_
      refine Pv.callVI (as := [.ref p, .int (Int32.ofNat (t_r T k))]) (rest := []) (z := b2i (m_alive S (t_r T k))) rfl rfl rfl (f_isAlive (m := t_r T k) hS (by omega) (by omega)) ?_
      refine Pv.if0 rfl (fun c7 => ?_) (fun c7 => ?_)
      · skip
        replace c7 := of_decide_eq_true c7
        replace c7 := b2z.mp c7
        refine Pv.iinc (y := Int32.ofNat (k + 1)) (lo' := [some (.ref p), some (.ref t), some (.int (Int32.ofNat m)), some (.int (Int32.ofNat (k + 1)))]) rfl rfl (i_add k 1) rfl ?_
        refine Pv.goto rfl ?_
        exact ih4 (k + 1) (⟨by omega, by show (_ || _) = false; simp [hb, c5, c6, c7]⟩)
      · skip
        replace c7 := of_decide_eq_false c7
        replace c7 := b2n.mp c7
        refine Pv.lit rfl ?_
        exact Pv.zret rfl (by rw [hQ]; exact ⟨b2_t (m_could_t (show k < t_n T by omega) (by simp [c5, c6, c7])), rfl⟩)
set_option maxRecDepth 100000 in
set_option maxHeartbeats 4000000 in
theorem f_hungerInAll {F : FW} {p n : Nat} {S : Sh} (hS : SHR F p n S) : Pm Z_X6_hungerInAll [.ref p] F (fun r F' => r = some (.int (m_sum (h_u S) 12)) ∧ F' = F) := by
  refine Pm.of fun N => ?_
  obtain ⟨Q, hQ⟩ : ∃ Q : Option Value → FW → Prop, Q = (fun r F' => r = some (.int (m_sum (h_u S) 12)) ∧ F' = F) := ⟨_, rfl⟩
  rw [← hQ]
  refine (show Pv (ab_T L_X6_hungerInAll) N 0 [some (.ref p), none, none] [] F Q from ?_)
  refine Pv.lit rfl ?_
  refine Pv.istore (lo' := [some (.ref p), some (.int 0), none]) rfl rfl ?_
  refine Pv.lit rfl ?_
  refine Pv.istore (lo' := [some (.ref p), some (.int 0), some (.int 0)]) rfl rfl ?_
  refine Pv.lp (ι := Nat × Int32) (lof := fun ⟨k, b⟩ => [some (.ref p), some (.int b), some (.int (Int32.ofNat k))]) (Ff := fun ⟨k, b⟩ => F) (P := fun ⟨k, b⟩ => k ≤ 12 ∧ b = m_sum (h_u S) k) ?_ (0, 0) (⟨Nat.zero_le _, rfl⟩)
  rintro N1 hN2 ⟨k, b⟩ hi3 ih4
  refine (show Pv _ _ 4 [some (.ref p), some (.int b), some (.int (Int32.ofNat k))] [] F Q from ?_)
  obtain ⟨hk, hb⟩ := hi3
  refine Pv.iloadS rfl rfl ?_
  refine Pv.lit rfl ?_
  refine Pv.icmp rfl (fun c5 => ?_) (fun c5 => ?_)
  · skip
    replace c5 := (i_le (a := 12) (b := k) (by omega) (by omega)).mp (of_decide_eq_true c5)
    refine Pv.iload rfl rfl ?_
    exact Pv.ret rfl (by rw [hQ]; exact ⟨by rw [hb, show k = 12 by omega], rfl⟩)
  · skip
    replace c5 := mt (i_le (a := 12) (b := k) (by omega) (by omega)).mpr (of_decide_eq_false c5)
    refine Pv.iload rfl rfl ?_
    refine Pv.aload rfl rfl ?_
    refine Pv.getR (v := .ref (p + 3)) rfl rfl (hS.o 2 (by decide)) ?_
    refine Pv.iload rfl rfl ?_
    refine Pv.ald (z := h_u S k) rfl (by rw [i_toNat (by omega)]; exact hS.u _ (by omega)) ?_
    refine Pv.bin (z := b + (h_u S k)) rfl (rfl) ?_
    refine Pv.istore (lo' := [some (.ref p), some (.int (b + (h_u S k))), some (.int (Int32.ofNat k))]) rfl rfl ?_
    refine Pv.iinc (y := Int32.ofNat (k + 1)) (lo' := [some (.ref p), some (.int (b + (h_u S k))), some (.int (Int32.ofNat (k + 1)))]) rfl rfl (i_add k 1) rfl ?_
    refine Pv.goto rfl ?_
    exact ih4 (k + 1, b + (h_u S k)) (⟨by omega, by show _ = _ + _; rw [hb]⟩)
set_option maxRecDepth 100000 in
set_option maxHeartbeats 4000000 in
theorem f_shCopy {F : FW} {p r m : Nat} {S : Sh} (hp : O7 F p) (hS : SHR F r m S) (hm : m ≤ 8) (hd : p + 7 < r ∨ r + 7 < p) : Pm Z_X6_copyFrom [.ref p, .ref r] F (fun r' F' => r' = none ∧ FX (fun q => p ≤ q ∧ q ≤ p + 7) F F' ∧ SHR F' p m S) := by
  refine Pm.of fun N => ?_
  obtain ⟨Q, hQ⟩ : ∃ Q : Option Value → FW → Prop, Q = (fun r' F' => r' = none ∧ FX (fun q => p ≤ q ∧ q ≤ p + 7) F F' ∧ SHR F' p m S) := ⟨_, rfl⟩
  rw [← hQ]
  refine (show Pv (ab_T L_X6_copyFrom) N 0 [some (.ref p), some (.ref r)] [] F Q from ?_)
  refine Pv.aload rfl rfl ?_
  refine Pv.getR (v := .ref (r + 1)) rfl rfl (hS.o 0 (by decide)) ?_
  refine Pv.lit rfl ?_
  refine Pv.aload rfl rfl ?_
  refine Pv.getR (v := .ref (p + 1)) rfl rfl (hp 0 (by decide)) ?_
  refine Pv.lit rfl ?_
  refine Pv.lit rfl ?_
  refine Pv.copy rfl ?_
  refine (show Pv _ _ 15 [some (.ref p), some (.ref r)] [] (fcp F (r + 1) (p + 1) 0 0 12) Q from ?_)
  refine Pv.aload rfl rfl ?_
  refine Pv.getR (v := .ref (r + 2)) rfl rfl (hS.o 1 (by decide)) ?_
  refine Pv.lit rfl ?_
  refine Pv.aload rfl rfl ?_
  refine Pv.getR (v := .ref (p + 2)) rfl rfl (hp 1 (by decide)) ?_
  refine Pv.lit rfl ?_
  refine Pv.lit rfl ?_
  refine Pv.copy rfl ?_
  refine (show Pv _ _ 30 [some (.ref p), some (.ref r)] [] (fcp (fcp F (r + 1) (p + 1) 0 0 12) (r + 2) (p + 2) 0 0 12) Q from ?_)
  refine Pv.aload rfl rfl ?_
  refine Pv.getR (v := .ref (r + 3)) rfl rfl (hS.o 2 (by decide)) ?_
  refine Pv.lit rfl ?_
  refine Pv.aload rfl rfl ?_
  refine Pv.getR (v := .ref (p + 3)) rfl rfl (hp 2 (by decide)) ?_
  refine Pv.lit rfl ?_
  refine Pv.lit rfl ?_
  refine Pv.copy rfl ?_
  refine (show Pv _ _ 45 [some (.ref p), some (.ref r)] [] (fcp (fcp (fcp F (r + 1) (p + 1) 0 0 12) (r + 2) (p + 2) 0 0 12) (r + 3) (p + 3) 0 0 12) Q from ?_)
  refine Pv.aload rfl rfl ?_
  refine Pv.getR (v := .ref (r + 4)) rfl rfl (hS.o 3 (by decide)) ?_
  refine Pv.lit rfl ?_
  refine Pv.aload rfl rfl ?_
  refine Pv.getR (v := .ref (p + 4)) rfl rfl (hp 3 (by decide)) ?_
  refine Pv.lit rfl ?_
  refine Pv.lit rfl ?_
  refine Pv.copy rfl ?_
  refine (show Pv _ _ 60 [some (.ref p), some (.ref r)] [] (fcp (fcp (fcp (fcp F (r + 1) (p + 1) 0 0 12) (r + 2) (p + 2) 0 0 12) (r + 3) (p + 3) 0 0 12) (r + 4) (p + 4) 0 0 12) Q from ?_)
  refine Pv.aload rfl rfl ?_
  refine Pv.getR (v := .ref (r + 5)) rfl rfl (hS.o 4 (by decide)) ?_
  refine Pv.lit rfl ?_
  refine Pv.aload rfl rfl ?_
  refine Pv.getR (v := .ref (p + 5)) rfl rfl (hp 4 (by decide)) ?_
  refine Pv.lit rfl ?_
  refine Pv.lit rfl ?_
  refine Pv.copy rfl ?_
  refine (show Pv _ _ 75 [some (.ref p), some (.ref r)] [] (fcp (fcp (fcp (fcp (fcp F (r + 1) (p + 1) 0 0 12) (r + 2) (p + 2) 0 0 12) (r + 3) (p + 3) 0 0 12) (r + 4) (p + 4) 0 0 12) (r + 5) (p + 5) 0 0 8) Q from ?_)
  refine Pv.aload rfl rfl ?_
  refine Pv.getR (v := .ref (r + 6)) rfl rfl (hS.o 5 (by decide)) ?_
  refine Pv.lit rfl ?_
  refine Pv.aload rfl rfl ?_
  refine Pv.getR (v := .ref (p + 6)) rfl rfl (hp 5 (by decide)) ?_
  refine Pv.lit rfl ?_
  refine Pv.lit rfl ?_
  refine Pv.copy rfl ?_
  refine (show Pv _ _ 90 [some (.ref p), some (.ref r)] [] (fcp (fcp (fcp (fcp (fcp (fcp F (r + 1) (p + 1) 0 0 12) (r + 2) (p + 2) 0 0 12) (r + 3) (p + 3) 0 0 12) (r + 4) (p + 4) 0 0 12) (r + 5) (p + 5) 0 0 8) (r + 6) (p + 6) 0 0 8) Q from ?_)
  refine Pv.aload rfl rfl ?_
  refine Pv.getR (v := .ref (r + 7)) rfl rfl (hS.o 6 (by decide)) ?_
  refine Pv.lit rfl ?_
  refine Pv.aload rfl rfl ?_
  refine Pv.getR (v := .ref (p + 7)) rfl rfl (hp 6 (by decide)) ?_
  refine Pv.lit rfl ?_
  refine Pv.lit rfl ?_
  refine Pv.copy rfl ?_
  refine (show Pv _ _ 105 [some (.ref p), some (.ref r)] [] (fcp (fcp (fcp (fcp (fcp (fcp (fcp F (r + 1) (p + 1) 0 0 12) (r + 2) (p + 2) 0 0 12) (r + 3) (p + 3) 0 0 12) (r + 4) (p + 4) 0 0 12) (r + 5) (p + 5) 0 0 8) (r + 6) (p + 6) 0 0 8) (r + 7) (p + 7) 0 0 64) Q from ?_)
  refine Pv.aload rfl rfl ?_
  refine Pv.aload rfl rfl ?_
  refine Pv.getI (z := Int32.ofNat (h_d S)) rfl rfl ((fcp_ne (by omega)).trans ((fcp_ne (by omega)).trans ((fcp_ne (by omega)).trans ((fcp_ne (by omega)).trans ((fcp_ne (by omega)).trans ((fcp_ne (by omega)).trans ((fcp_ne (by omega)).trans (hS.d)))))))) ?_
  refine Pv.putI rfl rfl ?_
  refine Pv.aload rfl rfl ?_
  refine Pv.aload rfl rfl ?_
  refine Pv.getI (z := h_i S) rfl rfl ((fp_ne (Or.inl (by omega))).trans ((fcp_ne (by omega)).trans ((fcp_ne (by omega)).trans ((fcp_ne (by omega)).trans ((fcp_ne (by omega)).trans ((fcp_ne (by omega)).trans ((fcp_ne (by omega)).trans ((fcp_ne (by omega)).trans (hS.i))))))))) ?_
  refine Pv.putI rfl rfl ?_
  refine Pv.aload rfl rfl ?_
  refine Pv.aload rfl rfl ?_
  refine Pv.getI (z := h_r S) rfl rfl ((fp_ne (Or.inl (by omega))).trans ((fp_ne (Or.inl (by omega))).trans ((fcp_ne (by omega)).trans ((fcp_ne (by omega)).trans ((fcp_ne (by omega)).trans ((fcp_ne (by omega)).trans ((fcp_ne (by omega)).trans ((fcp_ne (by omega)).trans ((fcp_ne (by omega)).trans (hS.r)))))))))) ?_
  refine Pv.putI rfl rfl ?_
  exact Pv.vret rfl (by rw [hQ]; exact ⟨rfl, (((((((((((FX.rf (P := fun q => p ≤ q ∧ q ≤ p + 7))).fcp (show p ≤ (p + 1) ∧ (p + 1) ≤ p + 7 by omega)).fcp (show p ≤ (p + 2) ∧ (p + 2) ≤ p + 7 by omega)).fcp (show p ≤ (p + 3) ∧ (p + 3) ≤ p + 7 by omega)).fcp (show p ≤ (p + 4) ∧ (p + 4) ≤ p + 7 by omega)).fcp (show p ≤ (p + 5) ∧ (p + 5) ≤ p + 7 by omega)).fcp (show p ≤ (p + 6) ∧ (p + 6) ≤ p + 7 by omega)).fcp (show p ≤ (p + 7) ∧ (p + 7) ≤ p + 7 by omega)).fp (show p ≤ p ∧ p ≤ p + 7 by omega)).fp (show p ≤ p ∧ p ≤ p + 7 by omega)).fp (show p ≤ p ∧ p ≤ p + 7 by omega), hp, hS.db, ((((((((((hS.s).cp (by omega)).cn (by omega)).cn (by omega)).cn (by omega)).cn (by omega)).cn (by omega)).cn (by omega)).ne (by omega)).ne (by omega)).ne (by omega), ((((((((((hS.h).cn (by omega)).cp (by omega)).cn (by omega)).cn (by omega)).cn (by omega)).cn (by omega)).cn (by omega)).ne (by omega)).ne (by omega)).ne (by omega), ((((((((((hS.u).cn (by omega)).cn (by omega)).cp (by omega)).cn (by omega)).cn (by omega)).cn (by omega)).cn (by omega)).ne (by omega)).ne (by omega)).ne (by omega), ((((((((((hS.c).cn (by omega)).cn (by omega)).cn (by omega)).cp (by omega)).cn (by omega)).cn (by omega)).cn (by omega)).ne (by omega)).ne (by omega)).ne (by omega), ((((((((((hS.a).cn (by omega)).cn (by omega)).cn (by omega)).cn (by omega)).cp (by omega)).cn (by omega)).cn (by omega)).ne (by omega)).ne (by omega)).ne (by omega), ((((((((((hS.t).cn (by omega)).cn (by omega)).cn (by omega)).cn (by omega)).cn (by omega)).cp (by omega)).cn (by omega)).ne (by omega)).ne (by omega)).ne (by omega), ((((((((((hS.p).cn (by omega)).cn (by omega)).cn (by omega)).cn (by omega)).cn (by omega)).cn (by omega)).cp (by omega)).ne (by omega)).ne (by omega)).ne (by omega), (fp_ne (Or.inr (by decide))).trans ((fp_ne (Or.inr (by decide))).trans (fp_eq)), (fp_ne (Or.inr (by decide))).trans (fp_eq), fp_eq⟩)
set_option maxRecDepth 100000 in
set_option maxHeartbeats 4000000 in
theorem f_plan {F : FW} {t p : Nat} {T : St} {S : Sh} (hT : TR F t T) (hS : SHR F p (t_m T) S) (hG : GW F) (j1 : t + 7 < 7 ∨ 9 < t) (j2 : p + 7 < 7 ∨ 9 < p) : Pm Z_X1_plan [.ref 7, .ref t, .ref p] F (fun r F' => r = none ∧ FX (fun q => 7 ≤ q ∧ q ≤ 9) F F' ∧ PLN F' T S) := by
  refine Pm.of fun N => ?_
  obtain ⟨Q, hQ⟩ : ∃ Q : Option Value → FW → Prop, Q = (fun r F' => r = none ∧ FX (fun q => 7 ≤ q ∧ q ≤ 9) F F' ∧ PLN F' T S) := ⟨_, rfl⟩
  rw [← hQ]
  have b3 := hT.mb
  have b4 := hT.nb
  have b5 := hT.gb
  have b6 := m_from_lt S
  have b7 := hS.db
  refine (show Pv (ab_T (L_X1_plan Z_X6_ferryShore Z_X6_allMissed Z_X10_slotOf Z_X6_lackAt Z_X1_amountMoved)) N 0 [some (.ref 7), some (.ref t), some (.ref p), none, none, none, none, none] [] F Q from ?_)
  refine Pv.aload rfl rfl ?_
  refine Pv.callVI (as := [.ref p]) (rest := []) (z := Int32.ofNat (m_from S)) rfl rfl rfl (f_ferryShore hS) ?_
  refine Pv.istore (lo' := [some (.ref 7), some (.ref t), some (.ref p), some (.int (Int32.ofNat (m_from S))), none, none, none, none]) rfl rfl ?_
  have cut1 : Pv (ab_T (L_X1_plan Z_X6_ferryShore Z_X6_allMissed Z_X10_slotOf Z_X6_lackAt Z_X1_amountMoved)) N 25 [some (.ref 7), some (.ref t), some (.ref p), some (.int (Int32.ofNat (m_from S))), some (.int (m_room T S)), none, none, none] [] F Q := by
    refine Pv.aload rfl rfl ?_
    refine Pv.lit rfl ?_
    refine Pv.putI rfl rfl ?_
    refine Pv.aload rfl rfl ?_
    refine Pv.lit rfl ?_
    refine Pv.putI rfl rfl ?_
    refine Pv.aload rfl rfl ?_
    refine Pv.aload rfl rfl ?_
    refine Pv.callVI (as := [.ref p, .ref t]) (rest := []) (z := m_missed T S) rfl rfl rfl (f_allMissed (hT.fx (P := fun q => q = 7) ((((FX.rf (P := fun q => q = 7))).fp rfl).fp rfl) (fun q h1 h2 (c : q = 7) => by omega)) (hS.fx (P := fun q => q = 7) ((((FX.rf (P := fun q => q = 7))).fp rfl).fp rfl) (fun q h1 h2 (c : q = 7) => by omega))) ?_
    refine Pv.istore (lo' := [some (.ref 7), some (.ref t), some (.ref p), some (.int (Int32.ofNat (m_from S))), some (.int (m_room T S)), some (.int (m_missed T S)), none, none]) rfl rfl ?_
    refine Pv.lit rfl ?_
    refine Pv.istore (lo' := [some (.ref 7), some (.ref t), some (.ref p), some (.int (Int32.ofNat (m_from S))), some (.int (m_room T S)), some (.int (m_missed T S)), some (.int 0), none]) rfl rfl ?_
    refine Pv.lp (ι := Nat × FW) (lof := fun ⟨k, G⟩ => [some (.ref 7), some (.ref t), some (.ref p), some (.int (Int32.ofNat (m_from S))), some (.int (m_room T S)), some (.int (m_missed T S)), some (.int (Int32.ofNat k)), none]) (Ff := fun ⟨k, G⟩ => G) (P := fun ⟨k, G⟩ => (k ≤ t_m T) ∧ (FX (fun q => 7 ≤ q ∧ q ≤ 9) F G) ∧ (G.1 7 2 = (m_pm T S k).1) ∧ (G.1 7 3 = (m_pm T S k).2)) ?_ (0, (fp (fp F 7 3 0) 7 2 0)) (⟨Nat.zero_le _, (((FX.rf (P := fun q => 7 ≤ q ∧ q ≤ 9))).fp (show 7 ≤ 7 ∧ 7 ≤ 9 by omega)).fp (show 7 ≤ 7 ∧ 7 ≤ 9 by omega), fp_eq, (fp_ne (Or.inr (by decide))).trans (fp_eq)⟩)
    rintro N2 hN3 ⟨k, G⟩ hi4 ih5
    refine (show Pv _ _ 45 [some (.ref 7), some (.ref t), some (.ref p), some (.int (Int32.ofNat (m_from S))), some (.int (m_room T S)), some (.int (m_missed T S)), some (.int (Int32.ofNat k)), none] [] G Q from ?_)
    obtain ⟨hk, hxG, h72, h73⟩ := hi4
    have hx6 := hT.fx (P := fun q => 7 ≤ q ∧ q ≤ 9) hxG (fun q h1 h2 (c : 7 ≤ q ∧ q ≤ 9) => by omega)
    have hx7 := hS.fx (P := fun q => 7 ≤ q ∧ q ≤ 9) hxG (fun q h1 h2 (c : 7 ≤ q ∧ q ≤ 9) => by omega)
    have hx8 := hG.fx (P := fun q => 7 ≤ q ∧ q ≤ 9) hxG
    refine Pv.iloadS rfl rfl ?_
    have cut9 : m_pm T S (t_m T) = m_pm T S k → Pv (ab_T (L_X1_plan Z_X6_ferryShore Z_X6_allMissed Z_X10_slotOf Z_X6_lackAt Z_X1_amountMoved)) N2 115 [some (.ref 7), some (.ref t), some (.ref p), some (.int (Int32.ofNat (m_from S))), some (.int (m_room T S)), some (.int (m_missed T S)), some (.int (Int32.ofNat k)), none] [] G Q := by
      intro ep
      have h72e : G.1 7 2 = m_board T S := h72.trans (by unfold m_board; rw [ep])
      have h73e : G.1 7 3 = m_pg T S 0 := h73.trans (by show _ = (m_pm T S (t_m T)).2; rw [ep])
      refine Pv.lit rfl ?_
      refine Pv.istore (lo' := [some (.ref 7), some (.ref t), some (.ref p), some (.int (Int32.ofNat (m_from S))), some (.int (m_room T S)), some (.int (m_missed T S)), some (.int 0), none]) rfl rfl ?_
      refine Pv.lp (ι := Nat × FW × (Option Value)) (lof := fun ⟨g, G2, o10⟩ => [some (.ref 7), some (.ref t), some (.ref p), some (.int (Int32.ofNat (m_from S))), some (.int (m_room T S)), some (.int (m_missed T S)), some (.int (Int32.ofNat g)), o10]) (Ff := fun ⟨g, G2, o10⟩ => G2) (P := fun ⟨g, G2, o10⟩ => (g ≤ t_g T) ∧ (FX (fun q => 7 ≤ q ∧ q ≤ 9) F G2) ∧ (G2.1 7 2 = m_board T S) ∧ (G2.1 7 3 = m_pg T S g) ∧ (AR G2 8 g (m_fr T S)) ∧ (AR G2 9 g (fun g => m_room T S - m_pg T S g))) ?_ (0, G, none) (⟨Nat.zero_le _, hxG, h72e, h73e, AR.z, AR.z⟩)
      rintro N11 hN12 ⟨g, G2, o10⟩ hi13 ih14
      refine (show Pv _ _ 118 [some (.ref 7), some (.ref t), some (.ref p), some (.int (Int32.ofNat (m_from S))), some (.int (m_room T S)), some (.int (m_missed T S)), some (.int (Int32.ofNat g)), o10] [] G2 Q from ?_)
      obtain ⟨hg, hxG2, h72, h73, h8, h9⟩ := hi13
      have hx15 := hT.fx (P := fun q => 7 ≤ q ∧ q ≤ 9) hxG2 (fun q h1 h2 (c : 7 ≤ q ∧ q ≤ 9) => by omega)
      have hx16 := hS.fx (P := fun q => 7 ≤ q ∧ q ≤ 9) hxG2 (fun q h1 h2 (c : 7 ≤ q ∧ q ≤ 9) => by omega)
      have hx17 := hG.fx (P := fun q => 7 ≤ q ∧ q ≤ 9) hxG2
      refine Pv.iloadS rfl rfl ?_
      refine Pv.aload rfl rfl ?_
      refine Pv.getI (z := Int32.ofNat (t_g T)) rfl rfl (hx15.g) ?_
      refine Pv.icmp rfl (fun c18 => ?_) (fun c18 => ?_)
      · skip
        replace c18 := (i_le (a := t_g T) (b := g) (by omega) (by omega)).mp (of_decide_eq_true c18)
        exact Pv.vret rfl (by rw [hQ]; exact ⟨rfl, hxG2, h72, by rw [h73, show g = t_g T by omega], h8.le (by omega), h9.le (by omega)⟩)
      · skip
        replace c18 := mt (i_le (a := t_g T) (b := g) (by omega) (by omega)).mpr (of_decide_eq_false c18)
        refine Pv.aload rfl rfl ?_
        refine Pv.aload rfl rfl ?_
        refine Pv.iload rfl rfl ?_
        refine Pv.lit rfl ?_
        refine Pv.iload rfl rfl ?_
        refine Pv.bin (z := Int32.ofNat (1 - (m_from S))) rfl (i_1m (by omega)) ?_
        refine Pv.callI (as := [.int (Int32.ofNat g), .int (Int32.ofNat (1 - (m_from S)))]) (rest := [.ref t, .ref p]) (z := Int32.ofNat (2 * g + (1 - (m_from S)))) rfl rfl rfl (f_slotOf (g := g) (s := 1 - (m_from S))) ?_
        refine Pv.callVI (as := [.ref p, .ref t, .int (Int32.ofNat (2 * g + (1 - (m_from S))))]) (rest := []) (z := m_lack T S (2 * g + (1 - (m_from S)))) rfl rfl rfl (f_lackAt (k := 2 * g + (1 - (m_from S))) hx15 hx16 (by omega)) ?_
        refine Pv.istore (lo' := [some (.ref 7), some (.ref t), some (.ref p), some (.int (Int32.ofNat (m_from S))), some (.int (m_room T S)), some (.int (m_missed T S)), some (.int (Int32.ofNat g)), some (.int (m_lack T S (2 * g + (1 - (m_from S)))))]) rfl rfl ?_
        refine Pv.aload rfl rfl ?_
        refine Pv.getR (v := .ref 9) rfl rfl (GW.at (a := 7) (k := 1) (b := 9) hx17 (by decide)) ?_
        refine Pv.iload rfl rfl ?_
        refine Pv.iload rfl rfl ?_
        refine Pv.aload rfl rfl ?_
        refine Pv.getI (z := m_pg T S g) rfl rfl (h73) ?_
        refine Pv.bin (z := (m_room T S) - (m_pg T S g)) rfl (rfl) ?_
        refine Pv.astk (k := g) (z := (m_room T S) - (m_pg T S g)) rfl (i_toNat (by omega)) (rfl) ?_
        refine Pv.aload rfl rfl ?_
        refine Pv.getR (v := .ref 8) rfl rfl (GW.at (a := 7) (k := 0) (b := 8) hx17 (by decide)) ?_
        refine Pv.iload rfl rfl ?_
        refine Pv.aload rfl rfl ?_
        refine Pv.getR (v := .ref (p + 1)) rfl rfl (hx16.o 0 (by decide)) ?_
        refine Pv.iload rfl rfl ?_
        refine Pv.iload rfl rfl ?_
        refine Pv.callI (as := [.int (Int32.ofNat g), .int (Int32.ofNat (m_from S))]) (rest := [.ref (p + 1), .int (Int32.ofNat g), .ref 8]) (z := Int32.ofNat (2 * g + (m_from S))) rfl rfl rfl (f_slotOf (g := g) (s := m_from S)) ?_
        refine Pv.ald (z := h_s S (2 * g + (m_from S))) rfl (by rw [i_toNat (by omega)]; exact (fp_ne (Or.inl (by omega))).trans (hx16.s _ (by omega))) ?_
        refine Pv.iload rfl rfl ?_
        refine Pv.aload rfl rfl ?_
        refine Pv.getR (v := .ref 9) rfl rfl (GW.at (a := 7) (k := 1) (b := 9) hx17 (by decide)) ?_
        refine Pv.iload rfl rfl ?_
        refine Pv.ald (z := (m_room T S) - (m_pg T S g)) rfl (by rw [i_toNat (by omega)]; exact fp_eq) ?_
        refine Pv.callI (as := [.int (h_s S (2 * g + (m_from S))), .int (m_lack T S (2 * g + (1 - (m_from S)))), .int ((m_room T S) - (m_pg T S g))]) (rest := [.int (Int32.ofNat g), .ref 8]) (z := m_moved (h_s S (2 * g + (m_from S))) (m_lack T S (2 * g + (1 - (m_from S)))) ((m_room T S) - (m_pg T S g))) rfl rfl rfl (f_amountMoved (x := h_s S (2 * g + (m_from S))) (y := m_lack T S (2 * g + (1 - (m_from S)))) (z := (m_room T S) - (m_pg T S g))) ?_
        refine Pv.astk (k := g) (z := m_moved (h_s S (2 * g + (m_from S))) (m_lack T S (2 * g + (1 - (m_from S)))) ((m_room T S) - (m_pg T S g))) rfl (i_toNat (by omega)) (rfl) ?_
        refine Pv.aload rfl rfl ?_
        refine Pv.dup rfl ?_
        refine Pv.getI (z := m_pg T S g) rfl rfl ((fp_ne (Or.inl (by decide))).trans ((fp_ne (Or.inl (by decide))).trans (h73))) ?_
        refine Pv.aload rfl rfl ?_
        refine Pv.getR (v := .ref 8) rfl rfl (GW.at (a := 7) (k := 0) (b := 8) hx17 (by decide)) ?_
        refine Pv.iload rfl rfl ?_
        refine Pv.ald (z := m_moved (h_s S (2 * g + (m_from S))) (m_lack T S (2 * g + (1 - (m_from S)))) ((m_room T S) - (m_pg T S g))) rfl (by rw [i_toNat (by omega)]; exact fp_eq) ?_
        refine Pv.bin (z := (m_pg T S g) + (m_moved (h_s S (2 * g + (m_from S))) (m_lack T S (2 * g + (1 - (m_from S)))) ((m_room T S) - (m_pg T S g)))) rfl (rfl) ?_
        refine Pv.putI rfl rfl ?_
        refine Pv.iinc (y := Int32.ofNat (g + 1)) (lo' := [some (.ref 7), some (.ref t), some (.ref p), some (.int (Int32.ofNat (m_from S))), some (.int (m_room T S)), some (.int (m_missed T S)), some (.int (Int32.ofNat (g + 1))), some (.int (m_lack T S (2 * g + (1 - (m_from S)))))]) rfl rfl (i_add g 1) rfl ?_
        refine Pv.goto rfl ?_
        exact ih14 (g + 1, (fp (fp (fp G2 9 g ((m_room T S) - (m_pg T S g))) 8 g (m_moved (h_s S (2 * g + (m_from S))) (m_lack T S (2 * g + (1 - (m_from S)))) ((m_room T S) - (m_pg T S g)))) 7 3 ((m_pg T S g) + (m_moved (h_s S (2 * g + (m_from S))) (m_lack T S (2 * g + (1 - (m_from S)))) ((m_room T S) - (m_pg T S g))))), (some (.int (m_lack T S (2 * g + (1 - (m_from S))))))) (⟨by omega, (((hxG2).fp (show 7 ≤ 9 ∧ 9 ≤ 9 by omega)).fp (show 7 ≤ 8 ∧ 8 ≤ 9 by omega)).fp (show 7 ≤ 7 ∧ 7 ≤ 9 by omega), (fp_ne (Or.inr (by decide))).trans ((fp_ne (Or.inl (by decide))).trans ((fp_ne (Or.inl (by decide))).trans (h72))), fp_eq, (((h8).ne (by decide)).ext (rfl)).ne (by decide), (((h9).ext (rfl)).ne (by decide)).ne (by decide)⟩)
    refine Pv.aload rfl rfl ?_
    refine Pv.getI (z := Int32.ofNat (t_m T)) rfl rfl (hx6.m) ?_
    refine Pv.icmp rfl (fun c19 => ?_) (fun c19 => ?_)
    · skip
      replace c19 := (i_le (a := t_m T) (b := k) (by omega) (by omega)).mp (of_decide_eq_true c19)
      exact cut9 (m_pm_e (T := T) (S := S) hk (by first | exact Or.inl (by omega) | exact Or.inr (by assumption)))
    · skip
      replace c19 := mt (i_le (a := t_m T) (b := k) (by omega) (by omega)).mpr (of_decide_eq_false c19)
      refine Pv.iload rfl rfl ?_
      refine Pv.aload rfl rfl ?_
      refine Pv.getI (z := (m_pm T S k).2) rfl rfl (h73) ?_
      refine Pv.bin (z := (m_room T S) - ((m_pm T S k).2)) rfl (rfl) ?_
      refine Pv.lit rfl ?_
      refine Pv.icmp rfl (fun c20 => ?_) (fun c20 => ?_)
      · skip
        replace c20 := of_decide_eq_true c20
        exact cut9 (m_pm_e (T := T) (S := S) hk (by first | exact Or.inl (by omega) | exact Or.inr (by assumption)))
      · skip
        replace c20 := of_decide_eq_false c20
        refine Pv.aload rfl rfl ?_
        refine Pv.getR (v := .ref (p + 5)) rfl rfl (hx7.o 4 (by decide)) ?_
        refine Pv.iload rfl rfl ?_
        refine Pv.ald (z := h_a S k) rfl (by rw [i_toNat (by omega)]; exact hx7.a _ (by omega)) ?_
        refine Pv.iload rfl rfl ?_
        refine Pv.icmp rfl (fun c21 => ?_) (fun c21 => ?_)
        · skip
          replace c21 : decide (h_a S k = Int32.ofNat (m_from S)) = false := by simpa using c21
          replace c21 := of_decide_eq_false c21
          refine Pv.iinc (y := Int32.ofNat (k + 1)) (lo' := [some (.ref 7), some (.ref t), some (.ref p), some (.int (Int32.ofNat (m_from S))), some (.int (m_room T S)), some (.int (m_missed T S)), some (.int (Int32.ofNat (k + 1))), none]) rfl rfl (i_add k 1) rfl ?_
          refine Pv.goto rfl ?_
          exact ih5 (k + 1, G) (⟨by omega, hxG, (h72).trans (by rw [m_pm_f (Or.inr (Or.inl c21))]), (h73).trans (by rw [m_pm_f (Or.inr (Or.inl c21))])⟩)
        · skip
          replace c21 : decide (h_a S k = Int32.ofNat (m_from S)) = true := by simpa using c21
          replace c21 := of_decide_eq_true c21
          refine Pv.iload rfl rfl ?_
          refine Pv.lit rfl ?_
          refine Pv.iload rfl rfl ?_
          refine Pv.bin (z := 1 <<< ((Int32.ofNat k) &&& 31)) rfl (rfl) ?_
          refine Pv.bin (z := (m_missed T S) &&& (1 <<< ((Int32.ofNat k) &&& 31))) rfl (rfl) ?_
          refine Pv.if0 rfl (fun c22 => ?_) (fun c22 => ?_)
          · skip
            replace c22 := of_decide_eq_true c22
            refine Pv.iinc (y := Int32.ofNat (k + 1)) (lo' := [some (.ref 7), some (.ref t), some (.ref p), some (.int (Int32.ofNat (m_from S))), some (.int (m_room T S)), some (.int (m_missed T S)), some (.int (Int32.ofNat (k + 1))), none]) rfl rfl (i_add k 1) rfl ?_
            refine Pv.goto rfl ?_
            exact ih5 (k + 1, G) (⟨by omega, hxG, (h72).trans (by rw [m_pm_f (Or.inr (Or.inr (by unfold m_bit; simp [c22])))]), (h73).trans (by rw [m_pm_f (Or.inr (Or.inr (by unfold m_bit; simp [c22])))])⟩)
          · skip
            replace c22 := of_decide_eq_false c22
            refine Pv.aload rfl rfl ?_
            refine Pv.dup rfl ?_
            refine Pv.getI (z := (m_pm T S k).1) rfl rfl (h72) ?_
            refine Pv.lit rfl ?_
            refine Pv.iload rfl rfl ?_
            refine Pv.bin (z := 1 <<< ((Int32.ofNat k) &&& 31)) rfl (rfl) ?_
            refine Pv.bin (z := ((m_pm T S k).1) ||| (1 <<< ((Int32.ofNat k) &&& 31))) rfl (rfl) ?_
            refine Pv.putI rfl rfl ?_
            refine Pv.aload rfl rfl ?_
            refine Pv.dup rfl ?_
            refine Pv.getI (z := (m_pm T S k).2) rfl rfl ((fp_ne (Or.inr (by decide))).trans (h73)) ?_
            refine Pv.lit rfl ?_
            refine Pv.bin (z := ((m_pm T S k).2) + 2) rfl (rfl) ?_
            refine Pv.putI rfl rfl ?_
            refine Pv.iinc (y := Int32.ofNat (k + 1)) (lo' := [some (.ref 7), some (.ref t), some (.ref p), some (.int (Int32.ofNat (m_from S))), some (.int (m_room T S)), some (.int (m_missed T S)), some (.int (Int32.ofNat (k + 1))), none]) rfl rfl (i_add k 1) rfl ?_
            refine Pv.goto rfl ?_
            exact ih5 (k + 1, (fp (fp G 7 2 (((m_pm T S k).1) ||| (1 <<< ((Int32.ofNat k) &&& 31)))) 7 3 (((m_pm T S k).2) + 2))) (⟨by omega, ((hxG).fp (show 7 ≤ 7 ∧ 7 ≤ 9 by omega)).fp (show 7 ≤ 7 ∧ 7 ≤ 9 by omega), ((fp_ne (Or.inr (by decide))).trans (fp_eq)).trans (by rw [m_pm_t c20 c21 (by unfold m_bit; simp [c22])]), (fp_eq).trans (by rw [m_pm_t c20 c21 (by unfold m_bit; simp [c22])])⟩)
  refine Pv.aload rfl rfl ?_
  refine Pv.getI (z := Int32.ofNat (h_d S)) rfl rfl (hS.d) ?_
  refine Pv.lit rfl ?_
  refine Pv.icmp rfl (fun c23 => ?_) (fun c23 => ?_)
  · skip
    replace c23 := (i_le (a := 400) (b := h_d S) (by omega) (by omega)).mp (of_decide_eq_true c23)
    refine Pv.lit rfl ?_
    have er : (0 : Int32) = m_room T S := (if_neg (by omega)).symm
    rw [er]
    refine Pv.istore (lo' := [some (.ref 7), some (.ref t), some (.ref p), some (.int (Int32.ofNat (m_from S))), some (.int (m_room T S)), none, none, none]) rfl rfl ?_
    exact cut1
  · skip
    replace c23 := mt (i_le (a := 400) (b := h_d S) (by omega) (by omega)).mpr (of_decide_eq_false c23)
    refine Pv.aload rfl rfl ?_
    refine Pv.getI (z := t_l T) rfl rfl (hT.l) ?_
    refine Pv.goto rfl ?_
    have er : (t_l T : Int32) = m_room T S := (if_pos (by omega)).symm
    rw [er]
    refine Pv.istore (lo' := [some (.ref 7), some (.ref t), some (.ref p), some (.int (Int32.ofNat (m_from S))), some (.int (m_room T S)), none, none, none]) rfl rfl ?_
    exact cut1
set_option maxRecDepth 100000 in
set_option maxHeartbeats 4000000 in
theorem f_carry {F : FW} {t p : Nat} {T : St} {S : Sh} (hT : TR F t T) (hS : SHR F p (t_m T) S) (hG : GW F) (hP : PLN F T S) (j1 : t + 7 < p ∨ p + 7 < t) (j2 : p + 7 < 7 ∨ 9 < p) : Pm Z_X1_carry [.ref 7, .ref t, .ref p] F (fun r F' => r = none ∧ FX (fun q => p ≤ q ∧ q ≤ p + 7) F F' ∧ SHR F' p (t_m T) (m_carry T S)) := by
  refine Pm.of fun N => ?_
  obtain ⟨Q, hQ⟩ : ∃ Q : Option Value → FW → Prop, Q = (fun r F' => r = none ∧ FX (fun q => p ≤ q ∧ q ≤ p + 7) F F' ∧ SHR F' p (t_m T) (m_carry T S)) := ⟨_, rfl⟩
  rw [← hQ]
  have b3 := hT.mb
  have b4 := hT.nb
  have b5 := hT.gb
  have b6 := m_from_lt S
  have b7 := hS.db
  refine (show Pv (ab_T (L_X1_carry Z_X6_ferryShore Z_X10_slotOf)) N 0 [some (.ref 7), some (.ref t), some (.ref p), none, none] [] F Q from ?_)
  refine Pv.aload rfl rfl ?_
  refine Pv.callVI (as := [.ref p]) (rest := []) (z := Int32.ofNat (m_from S)) rfl rfl rfl (f_ferryShore hS) ?_
  refine Pv.istore (lo' := [some (.ref 7), some (.ref t), some (.ref p), some (.int (Int32.ofNat (m_from S))), none]) rfl rfl ?_
  refine Pv.lit rfl ?_
  refine Pv.istore (lo' := [some (.ref 7), some (.ref t), some (.ref p), some (.int (Int32.ofNat (m_from S))), some (.int 0)]) rfl rfl ?_
  refine Pv.lp (ι := Nat × FW) (lof := fun ⟨k, G⟩ => [some (.ref 7), some (.ref t), some (.ref p), some (.int (Int32.ofNat (m_from S))), some (.int (Int32.ofNat k))]) (Ff := fun ⟨k, G⟩ => G) (P := fun ⟨k, G⟩ => (k ≤ t_m T) ∧ (FX (fun q => p ≤ q ∧ q ≤ p + 7) F G) ∧ (G.1 p 7 = Int32.ofNat (h_d S)) ∧ (G.1 p 8 = h_i S) ∧ (G.1 p 9 = h_r S) ∧ (AR G (p + 5) (t_m T) (m_cA T S k)) ∧ (AR G (p + 6) (t_m T) (m_cT T S k)) ∧ (AR G (p + 1) 12 (h_s S)) ∧ (AR G (p + 2) 12 (h_h S)) ∧ (AR G (p + 3) 12 (h_u S)) ∧ (AR G (p + 4) 12 (h_c S)) ∧ (AR G (p + 7) 64 (h_p S))) ?_ (0, F) (⟨Nat.zero_le _, FX.rf, hS.d, hS.i, hS.r, hS.a, hS.t, hS.s, hS.h, hS.u, hS.c, hS.p⟩)
  rintro N1 hN2 ⟨k, G⟩ hi3 ih4
  refine (show Pv _ _ 8 [some (.ref 7), some (.ref t), some (.ref p), some (.int (Int32.ofNat (m_from S))), some (.int (Int32.ofNat k))] [] G Q from ?_)
  obtain ⟨hk, hxG, hG7, hG8, hG9, hA, hT_, hG_1, hG_2, hG_3, hG_4, hG_7⟩ := hi3
  have hx5 := hT.fx (P := fun q => p ≤ q ∧ q ≤ p + 7) hxG (fun q h1 h2 (c : p ≤ q ∧ q ≤ p + 7) => by omega)
  have hx6 := hG.fx (P := fun q => p ≤ q ∧ q ≤ p + 7) hxG
  have hx7 := FX.O7 (P := fun q => p ≤ q ∧ q ≤ p + 7) hxG hS.o
  have hp8 := PLN.fx (P := fun q => p ≤ q ∧ q ≤ p + 7) hP hxG (fun q h1 h2 (c : p ≤ q ∧ q ≤ p + 7) => by omega)
  refine Pv.iloadS rfl rfl ?_
  refine Pv.aload rfl rfl ?_
  refine Pv.getI (z := Int32.ofNat (t_m T)) rfl rfl (hx5.m) ?_
  refine Pv.icmp rfl (fun c9 => ?_) (fun c9 => ?_)
  · skip
    replace c9 := (i_le (a := t_m T) (b := k) (by omega) (by omega)).mp (of_decide_eq_true c9)
    have ek : k = t_m T := by omega
    rw [ek] at hA hT_
    refine Pv.lit rfl ?_
    refine Pv.istore (lo' := [some (.ref 7), some (.ref t), some (.ref p), some (.int (Int32.ofNat (m_from S))), some (.int 0)]) rfl rfl ?_
    refine Pv.lp (ι := Nat × FW) (lof := fun ⟨g, G2⟩ => [some (.ref 7), some (.ref t), some (.ref p), some (.int (Int32.ofNat (m_from S))), some (.int (Int32.ofNat g))]) (Ff := fun ⟨g, G2⟩ => G2) (P := fun ⟨g, G2⟩ => (g ≤ t_g T) ∧ (FX (fun q => p ≤ q ∧ q ≤ p + 7) F G2) ∧ (G2.1 p 7 = Int32.ofNat (h_d S)) ∧ (G2.1 p 8 = h_i S) ∧ (G2.1 p 9 = h_r S) ∧ (AR G2 (p + 1) 12 (m_cS T S g)) ∧ (AR G2 (p + 4) 12 (m_cC T S g)) ∧ (AR G2 (p + 5) (t_m T) (m_cA T S (t_m T))) ∧ (AR G2 (p + 6) (t_m T) (m_cT T S (t_m T))) ∧ (AR G2 (p + 2) 12 (h_h S)) ∧ (AR G2 (p + 3) 12 (h_u S)) ∧ (AR G2 (p + 7) 64 (h_p S))) ?_ (0, G) (⟨Nat.zero_le _, hxG, hG7, hG8, hG9, hG_1, hG_4, hA, hT_, hG_2, hG_3, hG_7⟩)
    rintro N10 hN11 ⟨g, G2⟩ hi12 ih13
    refine (show Pv _ _ 59 [some (.ref 7), some (.ref t), some (.ref p), some (.int (Int32.ofNat (m_from S))), some (.int (Int32.ofNat g))] [] G2 Q from ?_)
    obtain ⟨hg, hxG2, hG27, hG28, hG29, hS_, hC, hA2, hT2, hG2_2, hG2_3, hG2_7⟩ := hi12
    have hx14 := hT.fx (P := fun q => p ≤ q ∧ q ≤ p + 7) hxG2 (fun q h1 h2 (c : p ≤ q ∧ q ≤ p + 7) => by omega)
    have hx15 := hG.fx (P := fun q => p ≤ q ∧ q ≤ p + 7) hxG2
    have hx16 := FX.O7 (P := fun q => p ≤ q ∧ q ≤ p + 7) hxG2 hS.o
    have hp17 := PLN.fx (P := fun q => p ≤ q ∧ q ≤ p + 7) hP hxG2 (fun q h1 h2 (c : p ≤ q ∧ q ≤ p + 7) => by omega)
    refine Pv.iloadS rfl rfl ?_
    refine Pv.aload rfl rfl ?_
    refine Pv.getI (z := Int32.ofNat (t_g T)) rfl rfl (hx14.g) ?_
    refine Pv.icmp rfl (fun c18 => ?_) (fun c18 => ?_)
    · skip
      replace c18 := (i_le (a := t_g T) (b := g) (by omega) (by omega)).mp (of_decide_eq_true c18)
      refine Pv.aload rfl rfl ?_
      refine Pv.dup rfl ?_
      refine Pv.getI (z := h_r S) rfl rfl (hG29) ?_
      refine Pv.aload rfl rfl ?_
      refine Pv.getI (z := m_pg T S (t_g T)) rfl rfl (hp17.2.1) ?_
      refine Pv.bin (z := (h_r S) + (m_pg T S (t_g T))) rfl (rfl) ?_
      refine Pv.putI rfl rfl ?_
      refine Pv.aload rfl rfl ?_
      refine Pv.getI (z := m_pg T S (t_g T)) rfl rfl ((fp_ne (Or.inl (by omega))).trans (hp17.2.1)) ?_
      refine Pv.if0 rfl (fun c19 => ?_) (fun c19 => ?_)
      · skip
        replace c19 : decide (m_pg T S (t_g T) = 0) = false := by simpa using c19
        replace c19 := of_decide_eq_false c19
        exact Pv.vret rfl (by rw [hQ]; exact ⟨rfl, (hxG2).fp (show p ≤ p ∧ p ≤ p + 7 by omega), hx16, hS.db, ((hS_).ne (by omega)).eq (congrArg (m_cS T S) (by omega)), (hG2_2).ne (by omega), (hG2_3).ne (by omega), ((hC).ne (by omega)).eq (congrArg (m_cC T S) (by omega)), (hA2).ne (by omega), (hT2).ne (by omega), (hG2_7).ne (by omega), (fp_ne (Or.inr (by decide))).trans (hG27), ((fp_ne (Or.inr (by decide))).trans (hG28)).trans (if_neg c19).symm, fp_eq⟩)
      · skip
        replace c19 : decide (m_pg T S (t_g T) = 0) = true := by simpa using c19
        replace c19 := of_decide_eq_true c19
        refine Pv.aload rfl rfl ?_
        refine Pv.dup rfl ?_
        refine Pv.getI (z := h_i S) rfl rfl ((fp_ne (Or.inr (by decide))).trans (hG28)) ?_
        refine Pv.lit rfl ?_
        refine Pv.bin (z := (h_i S) + 1) rfl (rfl) ?_
        refine Pv.putI rfl rfl ?_
        exact Pv.vret rfl (by rw [hQ]; exact ⟨rfl, ((hxG2).fp (show p ≤ p ∧ p ≤ p + 7 by omega)).fp (show p ≤ p ∧ p ≤ p + 7 by omega), hx16, hS.db, (((hS_).ne (by omega)).ne (by omega)).eq (congrArg (m_cS T S) (by omega)), ((hG2_2).ne (by omega)).ne (by omega), ((hG2_3).ne (by omega)).ne (by omega), (((hC).ne (by omega)).ne (by omega)).eq (congrArg (m_cC T S) (by omega)), ((hA2).ne (by omega)).ne (by omega), ((hT2).ne (by omega)).ne (by omega), ((hG2_7).ne (by omega)).ne (by omega), (fp_ne (Or.inr (by decide))).trans ((fp_ne (Or.inr (by decide))).trans (hG27)), (fp_eq).trans (if_pos c19).symm, (fp_ne (Or.inr (by decide))).trans (fp_eq)⟩)
    · skip
      replace c18 := mt (i_le (a := t_g T) (b := g) (by omega) (by omega)).mpr (of_decide_eq_false c18)
      refine Pv.aload rfl rfl ?_
      refine Pv.getR (v := .ref (p + 1)) rfl rfl (hx16 0 (by decide)) ?_
      refine Pv.iload rfl rfl ?_
      refine Pv.iload rfl rfl ?_
      refine Pv.callI (as := [.int (Int32.ofNat g), .int (Int32.ofNat (m_from S))]) (rest := [.ref (p + 1)]) (z := Int32.ofNat (2 * g + (m_from S))) rfl rfl rfl (f_slotOf (g := g) (s := m_from S)) ?_
      refine Pv.dup2 rfl ?_
      refine Pv.ald (z := (m_cS T S g) (2 * g + (m_from S))) rfl (by rw [i_toNat (by omega)]; exact hS_ _ (by omega)) ?_
      refine Pv.aload rfl rfl ?_
      refine Pv.getR (v := .ref 8) rfl rfl (GW.at (a := 7) (k := 0) (b := 8) hx15 (by decide)) ?_
      refine Pv.iload rfl rfl ?_
      refine Pv.ald (z := m_fr T S g) rfl (by rw [i_toNat (by omega)]; exact hp17.2.2.1 _ (by omega)) ?_
      refine Pv.bin (z := ((m_cS T S g) (2 * g + (m_from S))) - (m_fr T S g)) rfl (rfl) ?_
      refine Pv.astk (k := 2 * g + (m_from S)) (z := ((m_cS T S g) (2 * g + (m_from S))) - (m_fr T S g)) rfl (i_toNat (by omega)) (rfl) ?_
      refine Pv.aload rfl rfl ?_
      refine Pv.getR (v := .ref (p + 1)) rfl rfl (hx16 0 (by decide)) ?_
      refine Pv.iload rfl rfl ?_
      refine Pv.lit rfl ?_
      refine Pv.iload rfl rfl ?_
      refine Pv.bin (z := Int32.ofNat (1 - (m_from S))) rfl (i_1m (by omega)) ?_
      refine Pv.callI (as := [.int (Int32.ofNat g), .int (Int32.ofNat (1 - (m_from S)))]) (rest := [.ref (p + 1)]) (z := Int32.ofNat (2 * g + (1 - (m_from S)))) rfl rfl rfl (f_slotOf (g := g) (s := 1 - (m_from S))) ?_
      refine Pv.dup2 rfl ?_
      refine Pv.ald (z := (m_cS T S g) (2 * g + (1 - (m_from S)))) rfl (by rw [i_toNat (by omega)]; exact (fp_ne (Or.inr (by omega))).trans (hS_ _ (by omega))) ?_
      refine Pv.aload rfl rfl ?_
      refine Pv.getR (v := .ref 8) rfl rfl (GW.at (a := 7) (k := 0) (b := 8) hx15 (by decide)) ?_
      refine Pv.iload rfl rfl ?_
      refine Pv.ald (z := m_fr T S g) rfl (by rw [i_toNat (by omega)]; exact (fp_ne (Or.inl (by omega))).trans (hp17.2.2.1 _ (by omega))) ?_
      refine Pv.bin (z := ((m_cS T S g) (2 * g + (1 - (m_from S)))) + (m_fr T S g)) rfl (rfl) ?_
      refine Pv.astk (k := 2 * g + (1 - (m_from S))) (z := ((m_cS T S g) (2 * g + (1 - (m_from S)))) + (m_fr T S g)) rfl (i_toNat (by omega)) (rfl) ?_
      refine Pv.aload rfl rfl ?_
      refine Pv.getR (v := .ref (p + 4)) rfl rfl (hx16 3 (by decide)) ?_
      refine Pv.iload rfl rfl ?_
      refine Pv.lit rfl ?_
      refine Pv.iload rfl rfl ?_
      refine Pv.bin (z := Int32.ofNat (1 - (m_from S))) rfl (i_1m (by omega)) ?_
      refine Pv.callI (as := [.int (Int32.ofNat g), .int (Int32.ofNat (1 - (m_from S)))]) (rest := [.ref (p + 4)]) (z := Int32.ofNat (2 * g + (1 - (m_from S)))) rfl rfl rfl (f_slotOf (g := g) (s := 1 - (m_from S))) ?_
      refine Pv.dup2 rfl ?_
      refine Pv.ald (z := (m_cC T S g) (2 * g + (1 - (m_from S)))) rfl (by rw [i_toNat (by omega)]; exact (fp_ne (Or.inl (by omega))).trans ((fp_ne (Or.inl (by omega))).trans (hC _ (by omega)))) ?_
      refine Pv.aload rfl rfl ?_
      refine Pv.getR (v := .ref 8) rfl rfl (GW.at (a := 7) (k := 0) (b := 8) hx15 (by decide)) ?_
      refine Pv.iload rfl rfl ?_
      refine Pv.ald (z := m_fr T S g) rfl (by rw [i_toNat (by omega)]; exact (fp_ne (Or.inl (by omega))).trans ((fp_ne (Or.inl (by omega))).trans (hp17.2.2.1 _ (by omega)))) ?_
      refine Pv.bin (z := ((m_cC T S g) (2 * g + (1 - (m_from S)))) + (m_fr T S g)) rfl (rfl) ?_
      refine Pv.astk (k := 2 * g + (1 - (m_from S))) (z := ((m_cC T S g) (2 * g + (1 - (m_from S)))) + (m_fr T S g)) rfl (i_toNat (by omega)) (rfl) ?_
      refine Pv.iinc (y := Int32.ofNat (g + 1)) (lo' := [some (.ref 7), some (.ref t), some (.ref p), some (.int (Int32.ofNat (m_from S))), some (.int (Int32.ofNat (g + 1)))]) rfl rfl (i_add g 1) rfl ?_
      refine Pv.goto rfl ?_
      exact ih13 (g + 1, (fp (fp (fp G2 (p + 1) (2 * g + (m_from S)) (((m_cS T S g) (2 * g + (m_from S))) - (m_fr T S g))) (p + 1) (2 * g + (1 - (m_from S))) (((m_cS T S g) (2 * g + (1 - (m_from S)))) + (m_fr T S g))) (p + 4) (2 * g + (1 - (m_from S))) (((m_cC T S g) (2 * g + (1 - (m_from S)))) + (m_fr T S g)))) (⟨by omega, (((hxG2).fp (show p ≤ (p + 1) ∧ (p + 1) ≤ p + 7 by omega)).fp (show p ≤ (p + 1) ∧ (p + 1) ≤ p + 7 by omega)).fp (show p ≤ (p + 4) ∧ (p + 4) ≤ p + 7 by omega), (fp_ne (Or.inl (by omega))).trans ((fp_ne (Or.inl (by omega))).trans ((fp_ne (Or.inl (by omega))).trans (hG27))), (fp_ne (Or.inl (by omega))).trans ((fp_ne (Or.inl (by omega))).trans ((fp_ne (Or.inl (by omega))).trans (hG28))), (fp_ne (Or.inl (by omega))).trans ((fp_ne (Or.inl (by omega))).trans ((fp_ne (Or.inl (by omega))).trans (hG29))), (((hS_).up).up).ne (by omega), (((hC).ne (by omega)).ne (by omega)).up, (((hA2).ne (by omega)).ne (by omega)).ne (by omega), (((hT2).ne (by omega)).ne (by omega)).ne (by omega), (((hG2_2).ne (by omega)).ne (by omega)).ne (by omega), (((hG2_3).ne (by omega)).ne (by omega)).ne (by omega), (((hG2_7).ne (by omega)).ne (by omega)).ne (by omega)⟩)
  · skip
    replace c9 := mt (i_le (a := t_m T) (b := k) (by omega) (by omega)).mpr (of_decide_eq_false c9)
    refine Pv.aload rfl rfl ?_
    refine Pv.getI (z := m_board T S) rfl rfl (hp8.1) ?_
    refine Pv.lit rfl ?_
    refine Pv.iload rfl rfl ?_
    refine Pv.bin (z := 1 <<< ((Int32.ofNat k) &&& 31)) rfl (rfl) ?_
    refine Pv.bin (z := (m_board T S) &&& (1 <<< ((Int32.ofNat k) &&& 31))) rfl (rfl) ?_
    refine Pv.if0 rfl (fun c20 => ?_) (fun c20 => ?_)
    · skip
      replace c20 := of_decide_eq_true c20
      refine Pv.iinc (y := Int32.ofNat (k + 1)) (lo' := [some (.ref 7), some (.ref t), some (.ref p), some (.int (Int32.ofNat (m_from S))), some (.int (Int32.ofNat (k + 1)))]) rfl rfl (i_add k 1) rfl ?_
      refine Pv.goto rfl ?_
      exact ih4 (k + 1, G) (⟨by omega, hxG, hG7, hG8, hG9, (hA).eq ((if_neg (by simp [m_bit, c20])).symm), (hT_).eq ((if_neg (by simp [m_bit, c20])).symm), hG_1, hG_2, hG_3, hG_4, hG_7⟩)
    · skip
      replace c20 := of_decide_eq_false c20
      refine Pv.aload rfl rfl ?_
      refine Pv.getR (v := .ref (p + 5)) rfl rfl (hx7 4 (by decide)) ?_
      refine Pv.iload rfl rfl ?_
      refine Pv.lit rfl ?_
      refine Pv.iload rfl rfl ?_
      refine Pv.bin (z := Int32.ofNat (1 - (m_from S))) rfl (i_1m (by omega)) ?_
      refine Pv.astk (k := k) (z := Int32.ofNat (1 - (m_from S))) rfl (i_toNat (by omega)) (rfl) ?_
      refine Pv.aload rfl rfl ?_
      refine Pv.getR (v := .ref (p + 6)) rfl rfl (hx7 5 (by decide)) ?_
      refine Pv.iload rfl rfl ?_
      refine Pv.dup2 rfl ?_
      refine Pv.ald (z := (m_cT T S k) k) rfl (by rw [i_toNat (by omega)]; exact (fp_ne (Or.inl (by omega))).trans (hT_ _ (by omega))) ?_
      refine Pv.lit rfl ?_
      refine Pv.bin (z := ((m_cT T S k) k) + 1) rfl (rfl) ?_
      refine Pv.astk (k := k) (z := ((m_cT T S k) k) + 1) rfl (i_toNat (by omega)) (rfl) ?_
      refine Pv.iinc (y := Int32.ofNat (k + 1)) (lo' := [some (.ref 7), some (.ref t), some (.ref p), some (.int (Int32.ofNat (m_from S))), some (.int (Int32.ofNat (k + 1)))]) rfl rfl (i_add k 1) rfl ?_
      refine Pv.goto rfl ?_
      exact ih4 (k + 1, (fp (fp G (p + 5) k (Int32.ofNat (1 - (m_from S)))) (p + 6) k (((m_cT T S k) k) + 1))) (⟨by omega, ((hxG).fp (show p ≤ (p + 5) ∧ (p + 5) ≤ p + 7 by omega)).fp (show p ≤ (p + 6) ∧ (p + 6) ≤ p + 7 by omega), (fp_ne (Or.inl (by omega))).trans ((fp_ne (Or.inl (by omega))).trans (hG7)), (fp_ne (Or.inl (by omega))).trans ((fp_ne (Or.inl (by omega))).trans (hG8)), (fp_ne (Or.inl (by omega))).trans ((fp_ne (Or.inl (by omega))).trans (hG9)), (((hA).up).ne (by omega)).eq ((if_pos (by simp [m_bit, c20])).symm), (((hT_).ne (by omega)).up).eq ((if_pos (by simp [m_bit, c20])).symm), ((hG_1).ne (by omega)).ne (by omega), ((hG_2).ne (by omega)).ne (by omega), ((hG_3).ne (by omega)).ne (by omega), ((hG_4).ne (by omega)).ne (by omega), ((hG_7).ne (by omega)).ne (by omega)⟩)
set_option maxRecDepth 100000 in
set_option maxHeartbeats 4000000 in
theorem f_makeAndEat {F : FW} {t p : Nat} {T : St} {S : Sh} (hT : TR F t T) (hS : SHR F p (t_m T) S) (j1 : t + 7 < p ∨ p + 7 < t) : Pm Z_X6_makeAndEat [.ref p, .ref t] F (fun r F' => r = none ∧ FX (fun q => p ≤ q ∧ q ≤ p + 7) F F' ∧ SHR F' p (t_m T) (m_eat T S)) := by
  refine Pm.of fun N => ?_
  obtain ⟨Q, hQ⟩ : ∃ Q : Option Value → FW → Prop, Q = (fun r F' => r = none ∧ FX (fun q => p ≤ q ∧ q ≤ p + 7) F F' ∧ SHR F' p (t_m T) (m_eat T S)) := ⟨_, rfl⟩
  rw [← hQ]
  have b3 := hT.mb
  have b4 := hT.nb
  have b5 := hT.gb
  have b6 := m_from_lt S
  have b7 := hS.db
  refine (show Pv (ab_T (L_X6_makeAndEat Z_X7_leftAfter)) N 0 [some (.ref p), some (.ref t), none, none] [] F Q from ?_)
  refine Pv.lit rfl ?_
  refine Pv.istore (lo' := [some (.ref p), some (.ref t), some (.int 0), none]) rfl rfl ?_
  refine Pv.lp (ι := Nat × FW × (Option Value)) (lof := fun ⟨k, G, o1⟩ => [some (.ref p), some (.ref t), some (.int (Int32.ofNat k)), o1]) (Ff := fun ⟨k, G, o1⟩ => G) (P := fun ⟨k, G, o1⟩ => (k ≤ 2 * t_g T) ∧ (FX (fun q => p ≤ q ∧ q ≤ p + 7) F G) ∧ (G.1 p 7 = Int32.ofNat (h_d S)) ∧ (G.1 p 8 = h_i S) ∧ (G.1 p 9 = h_r S) ∧ (AR G (p + 1) 12 (m_eS T S k)) ∧ (AR G (p + 3) 12 (m_eU T S k)) ∧ (AR G (p + 2) 12 (h_h S)) ∧ (AR G (p + 4) 12 (h_c S)) ∧ (AR G (p + 5) (t_m T) (h_a S)) ∧ (AR G (p + 6) (t_m T) (h_t S)) ∧ (AR G (p + 7) 64 (h_p S))) ?_ (0, F, none) (⟨Nat.zero_le _, FX.rf, hS.d, hS.i, hS.r, hS.s, hS.u, hS.h, hS.c, hS.a, hS.t, hS.p⟩)
  rintro N2 hN3 ⟨k, G, o1⟩ hi4 ih5
  refine (show Pv _ _ 2 [some (.ref p), some (.ref t), some (.int (Int32.ofNat k)), o1] [] G Q from ?_)
  obtain ⟨hk, hxG, hG7, hG8, hG9, hE, hU, hG_2, hG_4, hG_5, hG_6, hG_7⟩ := hi4
  have hx6 := hT.fx (P := fun q => p ≤ q ∧ q ≤ p + 7) hxG (fun q h1 h2 (c : p ≤ q ∧ q ≤ p + 7) => by omega)
  have hx7 := FX.O7 (P := fun q => p ≤ q ∧ q ≤ p + 7) hxG hS.o
  refine Pv.iloadS rfl rfl ?_
  refine Pv.lit rfl ?_
  refine Pv.aload rfl rfl ?_
  refine Pv.getI (z := Int32.ofNat (t_g T)) rfl rfl (hx6.g) ?_
  refine Pv.bin (z := Int32.ofNat (2 * (t_g T))) rfl (i_mul 2 (t_g T)) ?_
  refine Pv.icmp rfl (fun c8 => ?_) (fun c8 => ?_)
  · skip
    replace c8 := (i_le (a := 2 * (t_g T)) (b := k) (by omega) (by omega)).mp (of_decide_eq_true c8)
    exact Pv.vret rfl (by rw [hQ]; exact ⟨rfl, hxG, hx7, hS.db, hE.eq (congrArg (m_eS T S) (by omega)), hG_2, hU.eq (congrArg (m_eU T S) (by omega)), hG_4, hG_5, hG_6, hG_7, hG7, hG8, hG9⟩)
  · skip
    replace c8 := mt (i_le (a := 2 * (t_g T)) (b := k) (by omega) (by omega)).mpr (of_decide_eq_false c8)
    refine Pv.aload rfl rfl ?_
    refine Pv.iload rfl rfl ?_
    refine Pv.aload rfl rfl ?_
    refine Pv.getR (v := .ref (p + 1)) rfl rfl (hx7 0 (by decide)) ?_
    refine Pv.iload rfl rfl ?_
    refine Pv.ald (z := (m_eS T S k) k) rfl (by rw [i_toNat (by omega)]; exact hE _ (by omega)) ?_
    refine Pv.callVI (as := [.ref t, .int (Int32.ofNat k), .int ((m_eS T S k) k)]) (rest := []) (z := m_left T k ((m_eS T S k) k)) rfl rfl rfl (f_leftAfter (k := k) (x := (m_eS T S k) k) hx6 (by omega)) ?_
    refine Pv.istore (lo' := [some (.ref p), some (.ref t), some (.int (Int32.ofNat k)), some (.int (m_left T k ((m_eS T S k) k)))]) rfl rfl ?_
    refine Pv.iload rfl rfl ?_
    refine Pv.if0 rfl (fun c9 => ?_) (fun c9 => ?_)
    · skip
      replace c9 := of_decide_eq_true c9
      refine Pv.aload rfl rfl ?_
      refine Pv.getR (v := .ref (p + 1)) rfl rfl (hx7 0 (by decide)) ?_
      refine Pv.iload rfl rfl ?_
      refine Pv.lit rfl ?_
      refine Pv.iload rfl rfl ?_
      refine Pv.mm (z := ab_max 0 (m_left T k ((m_eS T S k) k))) rfl (rfl) ?_
      refine Pv.astk (k := k) (z := ab_max 0 (m_left T k ((m_eS T S k) k))) rfl (i_toNat (by omega)) (rfl) ?_
      refine Pv.iinc (y := Int32.ofNat (k + 1)) (lo' := [some (.ref p), some (.ref t), some (.int (Int32.ofNat (k + 1))), some (.int (m_left T k ((m_eS T S k) k)))]) rfl rfl (i_add k 1) rfl ?_
      refine Pv.goto rfl ?_
      exact ih5 (k + 1, (fp G (p + 1) k (ab_max 0 (m_left T k ((m_eS T S k) k)))), (some (.int (m_left T k ((m_eS T S k) k))))) (⟨by omega, (hxG).fp (show p ≤ (p + 1) ∧ (p + 1) ≤ p + 7 by omega), (fp_ne (Or.inl (by omega))).trans (hG7), (fp_ne (Or.inl (by omega))).trans (hG8), (fp_ne (Or.inl (by omega))).trans (hG9), (hE).up, ((hU).ne (by omega)).eq ((if_neg (Int32.not_lt.mpr c9)).symm), (hG_2).ne (by omega), (hG_4).ne (by omega), (hG_5).ne (by omega), (hG_6).ne (by omega), (hG_7).ne (by omega)⟩)
    · skip
      replace c9 := of_decide_eq_false c9
      refine Pv.aload rfl rfl ?_
      refine Pv.getR (v := .ref (p + 3)) rfl rfl (hx7 2 (by decide)) ?_
      refine Pv.iload rfl rfl ?_
      refine Pv.dup2 rfl ?_
      refine Pv.ald (z := (m_eU T S k) k) rfl (by rw [i_toNat (by omega)]; exact hU _ (by omega)) ?_
      refine Pv.iload rfl rfl ?_
      refine Pv.bin (z := ((m_eU T S k) k) - (m_left T k ((m_eS T S k) k))) rfl (rfl) ?_
      refine Pv.astk (k := k) (z := ((m_eU T S k) k) - (m_left T k ((m_eS T S k) k))) rfl (i_toNat (by omega)) (rfl) ?_
      refine Pv.aload rfl rfl ?_
      refine Pv.getR (v := .ref (p + 1)) rfl rfl (hx7 0 (by decide)) ?_
      refine Pv.iload rfl rfl ?_
      refine Pv.lit rfl ?_
      refine Pv.iload rfl rfl ?_
      refine Pv.mm (z := ab_max 0 (m_left T k ((m_eS T S k) k))) rfl (rfl) ?_
      refine Pv.astk (k := k) (z := ab_max 0 (m_left T k ((m_eS T S k) k))) rfl (i_toNat (by omega)) (rfl) ?_
      refine Pv.iinc (y := Int32.ofNat (k + 1)) (lo' := [some (.ref p), some (.ref t), some (.int (Int32.ofNat (k + 1))), some (.int (m_left T k ((m_eS T S k) k)))]) rfl rfl (i_add k 1) rfl ?_
      refine Pv.goto rfl ?_
      exact ih5 (k + 1, (fp (fp G (p + 3) k (((m_eU T S k) k) - (m_left T k ((m_eS T S k) k)))) (p + 1) k (ab_max 0 (m_left T k ((m_eS T S k) k)))), (some (.int (m_left T k ((m_eS T S k) k))))) (⟨by omega, ((hxG).fp (show p ≤ (p + 3) ∧ (p + 3) ≤ p + 7 by omega)).fp (show p ≤ (p + 1) ∧ (p + 1) ≤ p + 7 by omega), (fp_ne (Or.inl (by omega))).trans ((fp_ne (Or.inl (by omega))).trans (hG7)), (fp_ne (Or.inl (by omega))).trans ((fp_ne (Or.inl (by omega))).trans (hG8)), (fp_ne (Or.inl (by omega))).trans ((fp_ne (Or.inl (by omega))).trans (hG9)), ((hE).ne (by omega)).up, (((hU).up).ne (by omega)).eq ((if_pos (Int32.not_le.mp c9)).symm), ((hG_2).ne (by omega)).ne (by omega), ((hG_4).ne (by omega)).ne (by omega), ((hG_5).ne (by omega)).ne (by omega), ((hG_6).ne (by omega)).ne (by omega), ((hG_7).ne (by omega)).ne (by omega)⟩)
set_option maxRecDepth 100000 in
set_option maxHeartbeats 4000000 in
theorem f_countApart {F : FW} {t p : Nat} {T : St} {S : Sh} (hT : TR F t T) (hS : SHR F p (t_m T) S) (j1 : t + 7 < p ∨ p + 7 < t) : Pm Z_X6_countApart [.ref p, .ref t] F (fun r F' => r = none ∧ FX (fun q => p ≤ q ∧ q ≤ p + 7) F F' ∧ SHR F' p (t_m T) (m_count T S)) := by
  refine Pm.of fun N => ?_
  obtain ⟨Q, hQ⟩ : ∃ Q : Option Value → FW → Prop, Q = (fun r F' => r = none ∧ FX (fun q => p ≤ q ∧ q ≤ p + 7) F F' ∧ SHR F' p (t_m T) (m_count T S)) := ⟨_, rfl⟩
  rw [← hQ]
  have b3 := hT.mb
  have b4 := hT.nb
  have b5 := hT.gb
  have b6 := m_from_lt S
  have b7 := hS.db
  refine (show Pv (ab_T L_X6_countApart) N 0 [some (.ref p), some (.ref t), none, none, none] [] F Q from ?_)
  refine Pv.lit rfl ?_
  refine Pv.istore (lo' := [some (.ref p), some (.ref t), some (.int 0), none, none]) rfl rfl ?_
  refine Pv.lp (ι := Nat × FW × (Option Value) × (Option Value)) (lof := fun ⟨k, G, o1, o2⟩ => [some (.ref p), some (.ref t), some (.int (Int32.ofNat k)), o1, o2]) (Ff := fun ⟨k, G, o1, o2⟩ => G) (P := fun ⟨k, G, o1, o2⟩ => (k ≤ t_m T) ∧ (FX (fun q => p ≤ q ∧ q ≤ p + 7) F G) ∧ (G.1 p 7 = Int32.ofNat (h_d S)) ∧ (G.1 p 8 = h_i S) ∧ (G.1 p 9 = h_r S) ∧ (AR G (p + 7) 64 (m_cP S k)) ∧ (AR G (p + 1) 12 (h_s S)) ∧ (AR G (p + 2) 12 (h_h S)) ∧ (AR G (p + 3) 12 (h_u S)) ∧ (AR G (p + 4) 12 (h_c S)) ∧ (AR G (p + 5) (t_m T) (h_a S)) ∧ (AR G (p + 6) (t_m T) (h_t S))) ?_ (0, F, none, none) (⟨Nat.zero_le _, FX.rf, hS.d, hS.i, hS.r, hS.p, hS.s, hS.h, hS.u, hS.c, hS.a, hS.t⟩)
  rintro N3 hN4 ⟨k, G, o1, o2⟩ hi5 ih6
  refine (show Pv _ _ 2 [some (.ref p), some (.ref t), some (.int (Int32.ofNat k)), o1, o2] [] G Q from ?_)
  obtain ⟨hk, hxG, hG7, hG8, hG9, hQ_, hG_1, hG_2, hG_3, hG_4, hG_5, hG_6⟩ := hi5
  have hx7 := hT.fx (P := fun q => p ≤ q ∧ q ≤ p + 7) hxG (fun q h1 h2 (c : p ≤ q ∧ q ≤ p + 7) => by omega)
  have hx8 := FX.O7 (P := fun q => p ≤ q ∧ q ≤ p + 7) hxG hS.o
  refine Pv.iloadS rfl rfl ?_
  refine Pv.aload rfl rfl ?_
  refine Pv.getI (z := Int32.ofNat (t_m T)) rfl rfl (hx7.m) ?_
  refine Pv.icmp rfl (fun c9 => ?_) (fun c9 => ?_)
  · skip
    replace c9 := (i_le (a := t_m T) (b := k) (by omega) (by omega)).mp (of_decide_eq_true c9)
    exact Pv.vret rfl (by rw [hQ]; exact ⟨rfl, hxG, hx8, hS.db, hG_1, hG_2, hG_3, hG_4, hG_5, hG_6, hQ_.eq (congrArg (m_cP S) (by omega)), hG7, hG8, hG9⟩)
  · skip
    replace c9 := mt (i_le (a := t_m T) (b := k) (by omega) (by omega)).mpr (of_decide_eq_false c9)
    refine Pv.lit rfl ?_
    refine Pv.istore (lo' := [some (.ref p), some (.ref t), some (.int (Int32.ofNat k)), some (.int 0), o2]) rfl rfl ?_
    refine Pv.lp (ι := Nat × FW × (Option Value)) (lof := fun ⟨o, G2, o10⟩ => [some (.ref p), some (.ref t), some (.int (Int32.ofNat k)), some (.int (Int32.ofNat o)), o10]) (Ff := fun ⟨o, G2, o10⟩ => G2) (P := fun ⟨o, G2, o10⟩ => (o ≤ k) ∧ (FX (fun q => p ≤ q ∧ q ≤ p + 7) F G2) ∧ (G2.1 p 7 = Int32.ofNat (h_d S)) ∧ (G2.1 p 8 = h_i S) ∧ (G2.1 p 9 = h_r S) ∧ (AR G2 (p + 7) 64 (m_cI S (m_cP S k) k o)) ∧ (AR G2 (p + 1) 12 (h_s S)) ∧ (AR G2 (p + 2) 12 (h_h S)) ∧ (AR G2 (p + 3) 12 (h_u S)) ∧ (AR G2 (p + 4) 12 (h_c S)) ∧ (AR G2 (p + 5) (t_m T) (h_a S)) ∧ (AR G2 (p + 6) (t_m T) (h_t S))) ?_ (0, G, o2) (⟨Nat.zero_le _, hxG, hG7, hG8, hG9, hQ_, hG_1, hG_2, hG_3, hG_4, hG_5, hG_6⟩)
    rintro N11 hN12 ⟨o, G2, o10⟩ hi13 ih14
    refine (show Pv _ _ 12 [some (.ref p), some (.ref t), some (.int (Int32.ofNat k)), some (.int (Int32.ofNat o)), o10] [] G2 Q from ?_)
    obtain ⟨ho, hxG2, hG27, hG28, hG29, hR_, hG2_1, hG2_2, hG2_3, hG2_4, hG2_5, hG2_6⟩ := hi13
    have hx15 := hT.fx (P := fun q => p ≤ q ∧ q ≤ p + 7) hxG2 (fun q h1 h2 (c : p ≤ q ∧ q ≤ p + 7) => by omega)
    have hx16 := FX.O7 (P := fun q => p ≤ q ∧ q ≤ p + 7) hxG2 hS.o
    refine Pv.iloadS rfl rfl ?_
    refine Pv.iload rfl rfl ?_
    refine Pv.icmp rfl (fun c17 => ?_) (fun c17 => ?_)
    · skip
      replace c17 := (i_le (a := k) (b := o) (by omega) (by omega)).mp (of_decide_eq_true c17)
      have eo : o = k := by omega
      rw [eo] at hR_
      refine Pv.iinc (y := Int32.ofNat (k + 1)) (lo' := [some (.ref p), some (.ref t), some (.int (Int32.ofNat (k + 1))), some (.int (Int32.ofNat o)), o10]) rfl rfl (i_add k 1) rfl ?_
      refine Pv.goto rfl ?_
      exact (ih6 (k + 1, G2, (some (.int (Int32.ofNat o))), o10) (⟨by omega, hxG2, hG27, hG28, hG29, hR_, hG2_1, hG2_2, hG2_3, hG2_4, hG2_5, hG2_6⟩)).mono (by omega)
    · skip
      replace c17 := mt (i_le (a := k) (b := o) (by omega) (by omega)).mpr (of_decide_eq_false c17)
      refine Pv.iload rfl rfl ?_
      refine Pv.lit rfl ?_
      refine Pv.bin (z := Int32.ofNat (k * 8)) rfl (i_mul k 8) ?_
      refine Pv.iload rfl rfl ?_
      refine Pv.bin (z := Int32.ofNat ((k * 8) + o)) rfl (i_add (k * 8) o) ?_
      refine Pv.istore (lo' := [some (.ref p), some (.ref t), some (.int (Int32.ofNat k)), some (.int (Int32.ofNat o)), some (.int (Int32.ofNat ((k * 8) + o)))]) rfl rfl ?_
      refine Pv.aload rfl rfl ?_
      refine Pv.getR (v := .ref (p + 5)) rfl rfl (hx16 4 (by decide)) ?_
      refine Pv.iload rfl rfl ?_
      refine Pv.ald (z := (h_a S) k) rfl (by rw [i_toNat (by omega)]; exact hG2_5 _ (by omega)) ?_
      refine Pv.aload rfl rfl ?_
      refine Pv.getR (v := .ref (p + 5)) rfl rfl (hx16 4 (by decide)) ?_
      refine Pv.iload rfl rfl ?_
      refine Pv.ald (z := (h_a S) o) rfl (by rw [i_toNat (by omega)]; exact hG2_5 _ (by omega)) ?_
      refine Pv.icmp rfl (fun c18 => ?_) (fun c18 => ?_)
      · skip
        replace c18 : decide ((h_a S) k = (h_a S) o) = false := by simpa using c18
        replace c18 := of_decide_eq_false c18
        refine Pv.aload rfl rfl ?_
        refine Pv.getR (v := .ref (p + 7)) rfl rfl (hx16 6 (by decide)) ?_
        refine Pv.iload rfl rfl ?_
        refine Pv.dup2 rfl ?_
        refine Pv.ald (z := (m_cI S (m_cP S k) k o) ((k * 8) + o)) rfl (by rw [i_toNat (by omega)]; exact hR_ _ (by omega)) ?_
        refine Pv.lit rfl ?_
        refine Pv.bin (z := ((m_cI S (m_cP S k) k o) ((k * 8) + o)) + 1) rfl (rfl) ?_
        refine Pv.astk (k := (k * 8) + o) (z := ((m_cI S (m_cP S k) k o) ((k * 8) + o)) + 1) rfl (i_toNat (by omega)) (rfl) ?_
        refine Pv.iinc (y := Int32.ofNat (o + 1)) (lo' := [some (.ref p), some (.ref t), some (.int (Int32.ofNat k)), some (.int (Int32.ofNat (o + 1))), some (.int (Int32.ofNat ((k * 8) + o)))]) rfl rfl (i_add o 1) rfl ?_
        refine Pv.goto rfl ?_
        exact ih14 (o + 1, (fp G2 (p + 7) ((k * 8) + o) (((m_cI S (m_cP S k) k o) ((k * 8) + o)) + 1)), (some (.int (Int32.ofNat ((k * 8) + o))))) (⟨by omega, (hxG2).fp (show p ≤ (p + 7) ∧ (p + 7) ≤ p + 7 by omega), (fp_ne (Or.inl (by omega))).trans (hG27), (fp_ne (Or.inl (by omega))).trans (hG28), (fp_ne (Or.inl (by omega))).trans (hG29), ((hR_).up).eq ((congrArg (up1 _ _) (if_neg c18).symm)), (hG2_1).ne (by omega), (hG2_2).ne (by omega), (hG2_3).ne (by omega), (hG2_4).ne (by omega), (hG2_5).ne (by omega), (hG2_6).ne (by omega)⟩)
      · skip
        replace c18 : decide ((h_a S) k = (h_a S) o) = true := by simpa using c18
        replace c18 := of_decide_eq_true c18
        refine Pv.aload rfl rfl ?_
        refine Pv.getR (v := .ref (p + 7)) rfl rfl (hx16 6 (by decide)) ?_
        refine Pv.iload rfl rfl ?_
        refine Pv.lit rfl ?_
        refine Pv.astk (k := (k * 8) + o) (z := 0) rfl (i_toNat (by omega)) (rfl) ?_
        refine Pv.goto rfl ?_
        refine Pv.iinc (y := Int32.ofNat (o + 1)) (lo' := [some (.ref p), some (.ref t), some (.int (Int32.ofNat k)), some (.int (Int32.ofNat (o + 1))), some (.int (Int32.ofNat ((k * 8) + o)))]) rfl rfl (i_add o 1) rfl ?_
        refine Pv.goto rfl ?_
        exact ih14 (o + 1, (fp G2 (p + 7) ((k * 8) + o) 0), (some (.int (Int32.ofNat ((k * 8) + o))))) (⟨by omega, (hxG2).fp (show p ≤ (p + 7) ∧ (p + 7) ≤ p + 7 by omega), (fp_ne (Or.inl (by omega))).trans (hG27), (fp_ne (Or.inl (by omega))).trans (hG28), (fp_ne (Or.inl (by omega))).trans (hG29), ((hR_).up).eq ((congrArg (up1 _ _) (if_pos c18).symm)), (hG2_1).ne (by omega), (hG2_2).ne (by omega), (hG2_3).ne (by omega), (hG2_4).ne (by omega), (hG2_5).ne (by omega), (hG2_6).ne (by omega)⟩)
set_option maxRecDepth 100000 in
set_option maxHeartbeats 4000000 in
theorem f_passDays {F : FW} {t p n : Nat} {T : St} {S : Sh} (hT : TR F t T) (hS : SHR F p (t_m T) S) (hG : GW F) (hn : n < 2147483648) (j1 : t + 7 < p ∨ p + 7 < t) (j2 : p + 7 < 7 ∨ 9 < p) (j3 : t + 7 < 7 ∨ 9 < t) : Pm Z_X1_passDays [.ref 7, .ref t, .ref p, .int (Int32.ofNat n)] F (fun r F' => r = some (.int (Int32.ofNat (h_d (m_days T S n)) - Int32.ofNat (h_d S))) ∧ FX (fun q => (p ≤ q ∧ q ≤ p + 7) ∨ (7 ≤ q ∧ q ≤ 9)) F F' ∧ SHR F' p (t_m T) (m_days T S n) ∧ ∀ i, n = i + 1 → h_d (m_days T S i) < 400 → PLN F' T (m_days T S i)) := by
  refine Pm.of fun N => ?_
  obtain ⟨Q, hQ⟩ : ∃ Q : Option Value → FW → Prop, Q = (fun r F' => r = some (.int (Int32.ofNat (h_d (m_days T S n)) - Int32.ofNat (h_d S))) ∧ FX (fun q => (p ≤ q ∧ q ≤ p + 7) ∨ (7 ≤ q ∧ q ≤ 9)) F F' ∧ SHR F' p (t_m T) (m_days T S n) ∧ ∀ i, n = i + 1 → h_d (m_days T S i) < 400 → PLN F' T (m_days T S i)) := ⟨_, rfl⟩
  rw [← hQ]
  have b3 := hT.mb
  have b4 := hT.nb
  have b5 := hT.gb
  have b6 := m_from_lt S
  have b7 := hS.db
  refine (show Pv (ab_T (L_X1_passDays Z_X1_plan Z_X1_carry Z_X6_makeAndEat Z_X6_countApart)) N 0 [some (.ref 7), some (.ref t), some (.ref p), some (.int (Int32.ofNat n)), none, none] [] F Q from ?_)
  refine Pv.aload rfl rfl ?_
  refine Pv.getI (z := Int32.ofNat (h_d S)) rfl rfl (hS.d) ?_
  refine Pv.istore (lo' := [some (.ref 7), some (.ref t), some (.ref p), some (.int (Int32.ofNat n)), some (.int (Int32.ofNat (h_d S))), none]) rfl rfl ?_
  refine Pv.lit rfl ?_
  refine Pv.istore (lo' := [some (.ref 7), some (.ref t), some (.ref p), some (.int (Int32.ofNat n)), some (.int (Int32.ofNat (h_d S))), some (.int 0)]) rfl rfl ?_
  refine Pv.lp (ι := Nat × FW) (lof := fun ⟨k, G⟩ => [some (.ref 7), some (.ref t), some (.ref p), some (.int (Int32.ofNat n)), some (.int (Int32.ofNat (h_d S))), some (.int (Int32.ofNat k))]) (Ff := fun ⟨k, G⟩ => G) (P := fun ⟨k, G⟩ => (k ≤ n) ∧ (FX (fun q => (p ≤ q ∧ q ≤ p + 7) ∨ (7 ≤ q ∧ q ≤ 9)) F G) ∧ (SHR G p (t_m T) (m_days T S k)) ∧ (∀ i, k = i + 1 → h_d (m_days T S i) < 400 ∧ PLN G T (m_days T S i))) ?_ (0, F) (⟨Nat.zero_le _, FX.rf, hS, fun i e => absurd e (by omega)⟩)
  rintro N1 hN2 ⟨k, G⟩ hi3 ih4
  refine (show Pv _ _ 9 [some (.ref 7), some (.ref t), some (.ref p), some (.int (Int32.ofNat n)), some (.int (Int32.ofNat (h_d S))), some (.int (Int32.ofNat k))] [] G Q from ?_)
  obtain ⟨hk, hxG, hD, hL⟩ := hi3
  have hx5 := hT.fx (P := fun q => (p ≤ q ∧ q ≤ p + 7) ∨ (7 ≤ q ∧ q ≤ 9)) hxG (fun q h1 h2 (c : (p ≤ q ∧ q ≤ p + 7) ∨ (7 ≤ q ∧ q ≤ 9)) => by omega)
  have hx6 := hG.fx (P := fun q => (p ≤ q ∧ q ≤ p + 7) ∨ (7 ≤ q ∧ q ≤ 9)) hxG
  refine Pv.iloadS rfl rfl ?_
  refine Pv.iload rfl rfl ?_
  refine Pv.icmp rfl (fun c7 => ?_) (fun c7 => ?_)
  · skip
    replace c7 := (i_le (a := n) (b := k) (by omega) (by omega)).mp (of_decide_eq_true c7)
    refine Pv.aload rfl rfl ?_
    refine Pv.getI (z := Int32.ofNat (h_d (m_days T S k))) rfl rfl (hD.d) ?_
    refine Pv.iload rfl rfl ?_
    refine Pv.bin (z := (Int32.ofNat (h_d (m_days T S k))) - (Int32.ofNat (h_d S))) rfl (rfl) ?_
    exact Pv.ret rfl (by rw [hQ]; exact ⟨by rw [show n = k by omega], hxG, by rw [show n = k by omega]; exact hD, fun i e _ => (hL i (by omega)).2⟩)
  · skip
    replace c7 := mt (i_le (a := n) (b := k) (by omega) (by omega)).mpr (of_decide_eq_false c7)
    have bD := hD.db
    refine Pv.aload rfl rfl ?_
    refine Pv.getI (z := Int32.ofNat (h_d (m_days T S k))) rfl rfl (hD.d) ?_
    refine Pv.lit rfl ?_
    refine Pv.icmp rfl (fun c8 => ?_) (fun c8 => ?_)
    · skip
      replace c8 := (i_le (a := 400) (b := h_d (m_days T S k)) (by omega) (by omega)).mp (of_decide_eq_true c8)
      refine Pv.aload rfl rfl ?_
      refine Pv.getI (z := Int32.ofNat (h_d (m_days T S k))) rfl rfl (hD.d) ?_
      refine Pv.iload rfl rfl ?_
      refine Pv.bin (z := (Int32.ofNat (h_d (m_days T S k))) - (Int32.ofNat (h_d S))) rfl (rfl) ?_
      exact Pv.ret rfl (by rw [hQ]; exact ⟨by rw [m_days_e (T := T) (S := S) (k := k) (n := n) (by omega) (by omega)], hxG, by rw [m_days_e (T := T) (S := S) (k := k) (n := n) (by omega) (by omega)]; exact hD, fun i e h => absurd h (by rw [m_days_e (T := T) (S := S) (k := k) (n := i) (by omega) (by omega)]; omega)⟩)
    · skip
      replace c8 := mt (i_le (a := 400) (b := h_d (m_days T S k)) (by omega) (by omega)).mpr (of_decide_eq_false c8)
      refine Pv.aload rfl rfl ?_
      refine Pv.aload rfl rfl ?_
      refine Pv.aload rfl rfl ?_
      refine Pv.callV (as := [.ref 7, .ref t, .ref p]) (rest := []) rfl rfl rfl (f_plan hx5 hD hx6 (by omega) (by omega)) ?_
      rintro _ G9 ⟨rfl, x10, pl12⟩
      have hx11 := FX.tr (P := fun q => (p ≤ q ∧ q ≤ p + 7) ∨ (7 ≤ q ∧ q ≤ 9)) hxG (x10.wd (fun q (c : 7 ≤ q ∧ q ≤ 9) => (show (p ≤ q ∧ q ≤ p + 7) ∨ (7 ≤ q ∧ q ≤ 9) by omega)))
      have hx13 := hx5.fx (P := fun q => 7 ≤ q ∧ q ≤ 9) x10 (fun q h1 h2 (c : 7 ≤ q ∧ q ≤ 9) => by omega)
      have hx14 := hD.fx (P := fun q => 7 ≤ q ∧ q ≤ 9) x10 (fun q h1 h2 (c : 7 ≤ q ∧ q ≤ 9) => by omega)
      have hx15 := hx6.fx (P := fun q => 7 ≤ q ∧ q ≤ 9) x10
      refine (show Pv _ _ 31 [some (.ref 7), some (.ref t), some (.ref p), some (.int (Int32.ofNat n)), some (.int (Int32.ofNat (h_d S))), some (.int (Int32.ofNat k))] [] G9 Q from ?_)
      refine Pv.aload rfl rfl ?_
      refine Pv.aload rfl rfl ?_
      refine Pv.aload rfl rfl ?_
      refine Pv.callV (as := [.ref 7, .ref t, .ref p]) (rest := []) rfl rfl rfl (f_carry hx13 hx14 hx15 pl12 (by omega) (by omega)) ?_
      rintro _ G16 ⟨rfl, x17, sr19⟩
      have hx18 := FX.tr (P := fun q => (p ≤ q ∧ q ≤ p + 7) ∨ (7 ≤ q ∧ q ≤ 9)) hx11 (x17.wd (fun q (c : p ≤ q ∧ q ≤ p + 7) => (show (p ≤ q ∧ q ≤ p + 7) ∨ (7 ≤ q ∧ q ≤ 9) by omega)))
      have hx20 := hx13.fx (P := fun q => p ≤ q ∧ q ≤ p + 7) x17 (fun q h1 h2 (c : p ≤ q ∧ q ≤ p + 7) => by omega)
      have hx21 := hx15.fx (P := fun q => p ≤ q ∧ q ≤ p + 7) x17
      refine (show Pv _ _ 37 [some (.ref 7), some (.ref t), some (.ref p), some (.int (Int32.ofNat n)), some (.int (Int32.ofNat (h_d S))), some (.int (Int32.ofNat k))] [] G16 Q from ?_)
      refine Pv.aload rfl rfl ?_
      refine Pv.aload rfl rfl ?_
      refine Pv.callV (as := [.ref p, .ref t]) (rest := []) rfl rfl rfl (f_makeAndEat hx20 sr19 (by omega)) ?_
      rintro _ G22 ⟨rfl, x23, sr25⟩
      have hx24 := FX.tr (P := fun q => (p ≤ q ∧ q ≤ p + 7) ∨ (7 ≤ q ∧ q ≤ 9)) hx18 (x23.wd (fun q (c : p ≤ q ∧ q ≤ p + 7) => (show (p ≤ q ∧ q ≤ p + 7) ∨ (7 ≤ q ∧ q ≤ 9) by omega)))
      have hx26 := hx20.fx (P := fun q => p ≤ q ∧ q ≤ p + 7) x23 (fun q h1 h2 (c : p ≤ q ∧ q ≤ p + 7) => by omega)
      have hx27 := hx21.fx (P := fun q => p ≤ q ∧ q ≤ p + 7) x23
      refine (show Pv _ _ 42 [some (.ref 7), some (.ref t), some (.ref p), some (.int (Int32.ofNat n)), some (.int (Int32.ofNat (h_d S))), some (.int (Int32.ofNat k))] [] G22 Q from ?_)
      refine Pv.aload rfl rfl ?_
      refine Pv.aload rfl rfl ?_
      refine Pv.callV (as := [.ref p, .ref t]) (rest := []) rfl rfl rfl (f_countApart hx26 sr25 (by omega)) ?_
      rintro _ G28 ⟨rfl, x29, sr31⟩
      have hx30 := FX.tr (P := fun q => (p ≤ q ∧ q ≤ p + 7) ∨ (7 ≤ q ∧ q ≤ 9)) hx24 (x29.wd (fun q (c : p ≤ q ∧ q ≤ p + 7) => (show (p ≤ q ∧ q ≤ p + 7) ∨ (7 ≤ q ∧ q ≤ 9) by omega)))
      have hx32 := hx26.fx (P := fun q => p ≤ q ∧ q ≤ p + 7) x29 (fun q h1 h2 (c : p ≤ q ∧ q ≤ p + 7) => by omega)
      have hx33 := hx27.fx (P := fun q => p ≤ q ∧ q ≤ p + 7) x29
      refine (show Pv _ _ 47 [some (.ref 7), some (.ref t), some (.ref p), some (.int (Int32.ofNat n)), some (.int (Int32.ofNat (h_d S))), some (.int (Int32.ofNat k))] [] G28 Q from ?_)
      refine Pv.aload rfl rfl ?_
      refine Pv.dup rfl ?_
      refine Pv.getI (z := Int32.ofNat (h_d (m_count T (m_eat T (m_carry T (m_days T S k)))))) rfl rfl (sr31.d) ?_
      refine Pv.lit rfl ?_
      refine Pv.bin (z := Int32.ofNat ((h_d (m_count T (m_eat T (m_carry T (m_days T S k))))) + 1)) rfl (i_add (h_d (m_count T (m_eat T (m_carry T (m_days T S k))))) 1) ?_
      refine Pv.putI rfl rfl ?_
      have ed : m_days T S (k + 1) = m_day T (m_days T S k) := m_days_s (by omega)
      have hDn : SHR (fp G28 p 7 (Int32.ofNat ((h_d (m_count T (m_eat T (m_carry T (m_days T S k))))) + 1))) p (t_m T) (m_days T S (k + 1)) := by
        rw [ed]
        exact ⟨sr31.o, (show h_d (m_days T S k) + 1 ≤ 400 by omega), (sr31.s).ne (by omega), (sr31.h).ne (by omega), (sr31.u).ne (by omega), (sr31.c).ne (by omega), (sr31.a).ne (by omega), (sr31.t).ne (by omega), (sr31.p).ne (by omega), fp_eq, (fp_ne (Or.inr (by decide))).trans (sr31.i), (fp_ne (Or.inr (by decide))).trans (sr31.r)⟩
      have hLn : ∀ i, k + 1 = i + 1 → h_d (m_days T S i) < 400 ∧ PLN (fp G28 p 7 (Int32.ofNat ((h_d (m_count T (m_eat T (m_carry T (m_days T S k))))) + 1))) T (m_days T S i) := fun i e => by
        obtain rfl : k = i := by omega
        exact ⟨by omega, (PLN.fx (P := fun q => p ≤ q ∧ q ≤ p + 7) pl12 (((FX.tr (P := fun q => p ≤ q ∧ q ≤ p + 7) (FX.tr (P := fun q => p ≤ q ∧ q ≤ p + 7) x17 x23) x29)).fp ⟨by omega, by omega⟩) (fun q h1 h2 (c : p ≤ q ∧ q ≤ p + 7) => by omega))⟩
      refine Pv.iinc (y := Int32.ofNat (k + 1)) (lo' := [some (.ref 7), some (.ref t), some (.ref p), some (.int (Int32.ofNat n)), some (.int (Int32.ofNat (h_d S))), some (.int (Int32.ofNat (k + 1)))]) rfl rfl (i_add k 1) rfl ?_
      refine Pv.goto rfl ?_
      exact ih4 (k + 1, (fp G28 p 7 (Int32.ofNat ((h_d (m_count T (m_eat T (m_carry T (m_days T S k))))) + 1)))) (⟨by omega, (hx30).fp (show (p ≤ p ∧ p ≤ p + 7) ∨ (7 ≤ p ∧ p ≤ 9) by omega), hDn, hLn⟩)
end
-- 63.b48.r1.lean.txt
section
set_option maxRecDepth 100000 in
set_option maxHeartbeats 4000000 in
theorem g_cell {F : FW} {g s : Nat} : Pm Z_X11_cell [.int (Int32.ofNat g), .int (Int32.ofNat s)] F (fun r F' => r = some (.int (Int32.ofNat (2 * g + s))) ∧ F' = F) := by
  refine Pm.of fun N => ?_
  obtain ⟨Q, hQ⟩ : ∃ Q : Option Value → FW → Prop, Q = (fun r F' => r = some (.int (Int32.ofNat (2 * g + s))) ∧ F' = F) := ⟨_, rfl⟩
  rw [← hQ]
  refine (show Pv (ab_T L_X11_cell) N 0 [some (.int (Int32.ofNat g)), some (.int (Int32.ofNat s))] [] F Q from ?_)
  refine Pv.lit rfl ?_
  refine Pv.iload rfl rfl ?_
  refine Pv.bin (z := Int32.ofNat (2 * g)) rfl (i_mul 2 g) ?_
  refine Pv.iload rfl rfl ?_
  refine Pv.bin (z := Int32.ofNat ((2 * g) + s)) rfl (i_add (2 * g) s) ?_
  exact Pv.ret rfl (by rw [hQ]; exact ⟨rfl, rfl⟩)
set_option maxRecDepth 100000 in
set_option maxHeartbeats 4000000 in
theorem g_lesser {F : FW} {x y : Int32} : Pm Z_X11_lesser [.int x, .int y] F (fun r F' => r = some (.int (m_less x y)) ∧ F' = F) := by
  refine Pm.of fun N => ?_
  obtain ⟨Q, hQ⟩ : ∃ Q : Option Value → FW → Prop, Q = (fun r F' => r = some (.int (m_less x y)) ∧ F' = F) := ⟨_, rfl⟩
  rw [← hQ]
  refine (show Pv (ab_T L_X11_lesser) N 0 [some (.int x), some (.int y)] [] F Q from ?_)
  refine Pv.iload rfl rfl ?_
  refine Pv.iload rfl rfl ?_
  refine Pv.icmp rfl (fun c1 => ?_) (fun c1 => ?_)
  · skip
    replace c1 := of_decide_eq_true c1
    refine Pv.iload rfl rfl ?_
    exact Pv.ret rfl (by rw [hQ]; exact ⟨by unfold m_less; rw [if_pos c1], rfl⟩)
  · skip
    replace c1 := of_decide_eq_false c1
    refine Pv.iload rfl rfl ?_
    refine Pv.goto rfl ?_
    exact Pv.ret rfl (by rw [hQ]; exact ⟨by unfold m_less; rw [if_neg c1], rfl⟩)
set_option maxRecDepth 100000 in
set_option maxHeartbeats 4000000 in
theorem g_bitOf {F : FW} {x : Int32} {k : Nat} : Pm Z_X11_bitOf [.int x, .int (Int32.ofNat k)] F (fun r F' => r = some (.int (b2i (xbit x k))) ∧ F' = F) := by
  refine Pm.of fun N => ?_
  obtain ⟨Q, hQ⟩ : ∃ Q : Option Value → FW → Prop, Q = (fun r F' => r = some (.int (b2i (xbit x k))) ∧ F' = F) := ⟨_, rfl⟩
  rw [← hQ]
  refine (show Pv (ab_T L_X11_bitOf) N 0 [some (.int x), some (.int (Int32.ofNat k))] [] F Q from ?_)
  refine Pv.iload rfl rfl ?_
  refine Pv.iload rfl rfl ?_
  refine Pv.bin (z := x >>> ((Int32.ofNat k) &&& 31)) rfl (rfl) ?_
  refine Pv.lit rfl ?_
  refine Pv.bin (z := (x >>> ((Int32.ofNat k) &&& 31)) &&& 1) rfl (rfl) ?_
  refine Pv.lit rfl ?_
  refine Pv.icmp rfl (fun c1 => ?_) (fun c1 => ?_)
  · skip
    replace c1 : decide ((x >>> ((Int32.ofNat k) &&& 31)) &&& 1 = 1) = false := by simpa using c1
    replace c1 := of_decide_eq_false c1
    refine Pv.lit rfl ?_
    exact Pv.zret rfl (by rw [hQ]; exact ⟨b2_f (by simp [xbit, c1]), rfl⟩)
  · skip
    replace c1 : decide ((x >>> ((Int32.ofNat k) &&& 31)) &&& 1 = 1) = true := by simpa using c1
    replace c1 := of_decide_eq_true c1
    refine Pv.lit rfl ?_
    refine Pv.goto rfl ?_
    exact Pv.zret rfl (by rw [hQ]; exact ⟨b2_t (by simp [xbit, c1]), rfl⟩)
set_option maxRecDepth 100000 in
set_option maxHeartbeats 4000000 in
theorem g_isDead {F : FW} {n m o : Nat} {S : Sh} (hX : XD F n S) (hG : GW F) (hm : m < n) : Pm Z_X11_isDead [.ref 69, .int (Int32.ofNat m)] F (fun r F' => r = some (.int (b2i (!m_alive S m))) ∧ F' = F) := by
  refine Pm.of fun N => ?_
  obtain ⟨Q, hQ⟩ : ∃ Q : Option Value → FW → Prop, Q = (fun r F' => r = some (.int (b2i (!m_alive S m))) ∧ F' = F) := ⟨_, rfl⟩
  rw [← hQ]
  refine (show Pv (ab_T (L_X11_isDead Z_X11_bitOf)) N 0 [some (.ref 69), some (.int (Int32.ofNat m))] [] F Q from ?_)
  refine Pv.aload rfl rfl ?_
  refine Pv.getR (v := .ref 71) rfl rfl (GW.at (a := 69) (k := 6) (b := 71) hG (by decide)) ?_
  refine Pv.lit rfl ?_
  refine Pv.ald (z := F.1 71 180) rfl (rfl) ?_
  refine Pv.iload rfl rfl ?_
  refine Pv.callI (as := [.int (F.1 71 180), .int (Int32.ofNat m)]) (rest := []) (z := b2i (xbit (F.1 71 180) m)) rfl rfl rfl (g_bitOf (x := F.1 71 180) (k := m)) ?_
  exact Pv.zret rfl (by rw [hQ]; exact ⟨by rw [hX.de hm], rfl⟩)
set_option maxRecDepth 100000 in
set_option maxHeartbeats 4000000 in
theorem g_areUnlike {F : FW} {n m o : Nat} {S : Sh} (hX : XD F n S) (hG : GW F) (hm : m < n) (ho : o < n) (hn : n ≤ 8) : Pm Z_X11_areUnlike [.ref 69, .int (Int32.ofNat m), .int (Int32.ofNat o)] F (fun r F' => r = some (.int (b2i (m_unl S m o))) ∧ F' = F) := by
  refine Pm.of fun N => ?_
  obtain ⟨Q, hQ⟩ : ∃ Q : Option Value → FW → Prop, Q = (fun r F' => r = some (.int (b2i (m_unl S m o))) ∧ F' = F) := ⟨_, rfl⟩
  rw [← hQ]
  refine (show Pv (ab_T (L_X11_areUnlike Z_X11_isDead)) N 0 [some (.ref 69), some (.int (Int32.ofNat m)), some (.int (Int32.ofNat o))] [] F Q from ?_)
  refine Pv.aload rfl rfl ?_
  refine Pv.iload rfl rfl ?_
  refine Pv.callVI (as := [.ref 69, .int (Int32.ofNat m)]) (rest := []) (z := b2i (!m_alive S m)) rfl rfl rfl (g_isDead (o := 0) (m := m) hX hG (by omega)) ?_
  refine Pv.if0 rfl (fun c1 => ?_) (fun c1 => ?_)
  · skip
    replace c1 : decide (b2i (!m_alive S m) = 0) = false := by simpa using c1
    replace c1 := of_decide_eq_false c1
    replace c1 := b2n.mp c1
    refine Pv.lit rfl ?_
    exact Pv.zret rfl (by rw [hQ]; exact ⟨b2_f (by have := c1; simp at this; simp [m_unl, this]), rfl⟩)
  · skip
    replace c1 : decide (b2i (!m_alive S m) = 0) = true := by simpa using c1
    replace c1 := of_decide_eq_true c1
    replace c1 := b2z.mp c1
    have a1 : m_alive S m = true := by simpa using c1
    refine Pv.aload rfl rfl ?_
    refine Pv.iload rfl rfl ?_
    refine Pv.callVI (as := [.ref 69, .int (Int32.ofNat o)]) (rest := []) (z := b2i (!m_alive S o)) rfl rfl rfl (g_isDead (o := 0) (m := o) hX hG (by omega)) ?_
    refine Pv.if0 rfl (fun c2 => ?_) (fun c2 => ?_)
    · skip
      replace c2 : decide (b2i (!m_alive S o) = 0) = false := by simpa using c2
      replace c2 := of_decide_eq_false c2
      replace c2 := b2n.mp c2
      refine Pv.lit rfl ?_
      exact Pv.zret rfl (by rw [hQ]; exact ⟨b2_f (by have := c2; simp at this; simp [m_unl, this]), rfl⟩)
    · skip
      replace c2 : decide (b2i (!m_alive S o) = 0) = true := by simpa using c2
      replace c2 := of_decide_eq_true c2
      replace c2 := b2z.mp c2
      have a2 : m_alive S o = true := by simpa using c2
      refine Pv.aload rfl rfl ?_
      refine Pv.getR (v := .ref 71) rfl rfl (GW.at (a := 69) (k := 6) (b := 71) hG (by decide)) ?_
      refine Pv.lit rfl ?_
      refine Pv.iload rfl rfl ?_
      refine Pv.bin (z := Int32.ofNat (172 + m)) rfl (i_add 172 m) ?_
      refine Pv.ald (z := h_a S m) rfl (by rw [i_toNat (by omega)]; exact hX.a (by omega) a1) ?_
      refine Pv.aload rfl rfl ?_
      refine Pv.getR (v := .ref 71) rfl rfl (GW.at (a := 69) (k := 6) (b := 71) hG (by decide)) ?_
      refine Pv.lit rfl ?_
      refine Pv.iload rfl rfl ?_
      refine Pv.bin (z := Int32.ofNat (172 + o)) rfl (i_add 172 o) ?_
      refine Pv.ald (z := h_a S o) rfl (by rw [i_toNat (by omega)]; exact hX.a (by omega) a2) ?_
      refine Pv.icmp rfl (fun c3 => ?_) (fun c3 => ?_)
      · skip
        replace c3 := of_decide_eq_true c3
        refine Pv.lit rfl ?_
        exact Pv.zret rfl (by rw [hQ]; exact ⟨b2_f (by simp [m_unl, a1, a2, c3]), rfl⟩)
      · skip
        replace c3 := of_decide_eq_false c3
        refine Pv.lit rfl ?_
        refine Pv.goto rfl ?_
        exact Pv.zret rfl (by rw [hQ]; exact ⟨b2_t (by simp [m_unl, a1, a2, c3]), rfl⟩)
set_option maxRecDepth 100000 in
set_option maxHeartbeats 4000000 in
theorem g_doesMiss {F : FW} {m o : Nat} {T : St} {S : Sh} (hT : XT F T) (hS : XS F (t_m T) S) (hG : GW F) (hm : m < t_m T) (ho : o < t_m T) : Pm Z_X11_doesMiss [.ref 69, .int (Int32.ofNat m), .int (Int32.ofNat o)] F (fun r F' => r = some (.int (b2i (m_does T S m o))) ∧ F' = F) := by
  refine Pm.of fun N => ?_
  obtain ⟨Q, hQ⟩ : ∃ Q : Option Value → FW → Prop, Q = (fun r F' => r = some (.int (b2i (m_does T S m o))) ∧ F' = F) := ⟨_, rfl⟩
  rw [← hQ]
  have b3 := hT.mb
  have b4 := hT.nb
  have b5 := hT.gb
  have b6 := m_from_lt S
  have b7 := hS.db
  refine (show Pv (ab_T (L_X11_doesMiss Z_X11_areUnlike)) N 0 [some (.ref 69), some (.int (Int32.ofNat m)), some (.int (Int32.ofNat o)), none] [] F Q from ?_)
  refine Pv.aload rfl rfl ?_
  refine Pv.iload rfl rfl ?_
  refine Pv.iload rfl rfl ?_
  refine Pv.callVI (as := [.ref 69, .int (Int32.ofNat m), .int (Int32.ofNat o)]) (rest := []) (z := b2i (m_unl S m o)) rfl rfl rfl (g_areUnlike (m := m) (o := o) hS.xd hG (by omega) (by omega) (by omega)) ?_
  refine Pv.if0 rfl (fun c1 => ?_) (fun c1 => ?_)
  · skip
    replace c1 : decide (b2i (m_unl S m o) = 0) = false := by simpa using c1
    replace c1 := of_decide_eq_false c1
    replace c1 := b2n.mp c1
    have u1 := c1
    have u2 : m_alive S m = true ∧ m_alive S o = true ∧ ¬ h_a S m = h_a S o := by simpa [m_unl, and_assoc] using u1
    obtain ⟨a1, a2, a3⟩ := u2
    have hne : m ≠ o := fun e => a3 (by rw [e])
    refine Pv.lit rfl ?_
    refine Pv.istore (lo' := [some (.ref 69), some (.int (Int32.ofNat m)), some (.int (Int32.ofNat o)), some (.int 0)]) rfl rfl ?_
    refine Pv.lp (ι := Nat) (lof := fun k => [some (.ref 69), some (.int (Int32.ofNat m)), some (.int (Int32.ofNat o)), some (.int (Int32.ofNat k))]) (Ff := fun k => F) (P := fun k => k ≤ t_n T ∧ m_first T m o k = none) ?_ 0 (⟨Nat.zero_le _, rfl⟩)
    rintro N2 hN3 k hi4 ih5
    refine (show Pv _ _ 13 [some (.ref 69), some (.int (Int32.ofNat m)), some (.int (Int32.ofNat o)), some (.int (Int32.ofNat k))] [] F Q from ?_)
    obtain ⟨hk, hb⟩ := hi4
    refine Pv.iloadS rfl rfl ?_
    refine Pv.aload rfl rfl ?_
    refine Pv.getR (v := .ref 71) rfl rfl (GW.at (a := 69) (k := 6) (b := 71) hG (by decide)) ?_
    refine Pv.lit rfl ?_
    refine Pv.ald (z := Int32.ofNat (t_n T)) rfl (hT.n) ?_
    refine Pv.icmp rfl (fun c6 => ?_) (fun c6 => ?_)
    · skip
      replace c6 := (i_le (a := t_n T) (b := k) (by omega) (by omega)).mp (of_decide_eq_true c6)
      refine Pv.lit rfl ?_
      exact Pv.zret rfl (by rw [hQ]; exact ⟨b2_f (by unfold m_does; rw [show t_n T = k by omega, hb]; simp), rfl⟩)
    · skip
      replace c6 := mt (i_le (a := t_n T) (b := k) (by omega) (by omega)).mpr (of_decide_eq_false c6)
      have b1 := hT.rb (show k < t_n T by omega)
      have b2 := hT.db (show k < t_n T by omega)
      refine Pv.aload rfl rfl ?_
      refine Pv.getR (v := .ref 71) rfl rfl (GW.at (a := 69) (k := 6) (b := 71) hG (by decide)) ?_
      refine Pv.lit rfl ?_
      refine Pv.iload rfl rfl ?_
      refine Pv.bin (z := Int32.ofNat (60 + k)) rfl (i_add 60 k) ?_
      refine Pv.ald (z := Int32.ofNat (t_r T k)) rfl (by rw [i_toNat (by omega)]; exact hT.r _ (by omega)) ?_
      refine Pv.iload rfl rfl ?_
      refine Pv.icmp rfl (fun c7 => ?_) (fun c7 => ?_)
      · skip
        replace c7 : decide (Int32.ofNat (t_r T k) = Int32.ofNat m) = false := by simpa using c7
        replace c7 := mt (i_eq (a := t_r T k) (b := m) (by omega) (by omega)).mpr (of_decide_eq_false c7)
        refine Pv.iinc (y := Int32.ofNat (k + 1)) (lo' := [some (.ref 69), some (.int (Int32.ofNat m)), some (.int (Int32.ofNat o)), some (.int (Int32.ofNat (k + 1)))]) rfl rfl (i_add k 1) rfl ?_
        refine Pv.goto rfl ?_
        exact ih5 (k + 1) (⟨by omega, m_first_n hb (fun q => absurd q.1 (by omega))⟩)
      · skip
        replace c7 : decide (Int32.ofNat (t_r T k) = Int32.ofNat m) = true := by simpa using c7
        replace c7 := (i_eq (a := t_r T k) (b := m) (by omega) (by omega)).mp (of_decide_eq_true c7)
        refine Pv.aload rfl rfl ?_
        refine Pv.getR (v := .ref 71) rfl rfl (GW.at (a := 69) (k := 6) (b := 71) hG (by decide)) ?_
        refine Pv.lit rfl ?_
        refine Pv.iload rfl rfl ?_
        refine Pv.bin (z := Int32.ofNat (80 + k)) rfl (i_add 80 k) ?_
        refine Pv.ald (z := Int32.ofNat (t_d T k)) rfl (by rw [i_toNat (by omega)]; exact hT.d _ (by omega)) ?_
        refine Pv.iload rfl rfl ?_
        refine Pv.icmp rfl (fun c8 => ?_) (fun c8 => ?_)
        · skip
          replace c8 : decide (Int32.ofNat (t_d T k) = Int32.ofNat o) = false := by simpa using c8
          replace c8 := mt (i_eq (a := t_d T k) (b := o) (by omega) (by omega)).mpr (of_decide_eq_false c8)
          refine Pv.iinc (y := Int32.ofNat (k + 1)) (lo' := [some (.ref 69), some (.int (Int32.ofNat m)), some (.int (Int32.ofNat o)), some (.int (Int32.ofNat (k + 1)))]) rfl rfl (i_add k 1) rfl ?_
          refine Pv.goto rfl ?_
          exact ih5 (k + 1) (⟨by omega, m_first_n hb (fun q => absurd q.2 (by omega))⟩)
        · skip
          replace c8 : decide (Int32.ofNat (t_d T k) = Int32.ofNat o) = true := by simpa using c8
          replace c8 := (i_eq (a := t_d T k) (b := o) (by omega) (by omega)).mp (of_decide_eq_true c8)
          refine Pv.aload rfl rfl ?_
          refine Pv.getR (v := .ref 71) rfl rfl (GW.at (a := 69) (k := 6) (b := 71) hG (by decide)) ?_
          refine Pv.lit rfl ?_
          refine Pv.lit rfl ?_
          refine Pv.iload rfl rfl ?_
          refine Pv.bin (z := Int32.ofNat (8 * m)) rfl (i_mul 8 m) ?_
          refine Pv.bin (z := Int32.ofNat (189 + (8 * m))) rfl (i_add 189 (8 * m)) ?_
          refine Pv.iload rfl rfl ?_
          refine Pv.bin (z := Int32.ofNat ((189 + (8 * m)) + o)) rfl (i_add (189 + (8 * m)) o) ?_
          refine Pv.ald (z := m_apart S m o) rfl (by rw [i_toNat (by omega)]; exact hS.p (by omega) (by omega) hne a1 a2) ?_
          refine Pv.aload rfl rfl ?_
          refine Pv.getR (v := .ref 71) rfl rfl (GW.at (a := 69) (k := 6) (b := 71) hG (by decide)) ?_
          refine Pv.lit rfl ?_
          refine Pv.iload rfl rfl ?_
          refine Pv.bin (z := Int32.ofNat (100 + k)) rfl (i_add 100 k) ?_
          refine Pv.ald (z := t_dd T k) rfl (by rw [i_toNat (by omega)]; exact hT.dd _ (by omega)) ?_
          refine Pv.icmp rfl (fun c9 => ?_) (fun c9 => ?_)
          · skip
            replace c9 := of_decide_eq_true c9
            refine Pv.lit rfl ?_
            exact Pv.zret rfl (by rw [hQ]; exact ⟨b2_f (by unfold m_does; rw [m_first_e hb c7 c8 (by omega)]; simp [u1, c9]), rfl⟩)
          · skip
            replace c9 := of_decide_eq_false c9
            refine Pv.lit rfl ?_
            refine Pv.goto rfl ?_
            exact Pv.zret rfl (by rw [hQ]; exact ⟨b2_t (by unfold m_does; rw [m_first_e hb c7 c8 (by omega)]; simp [u1, c9]), rfl⟩)
  · skip
    replace c1 : decide (b2i (m_unl S m o) = 0) = true := by simpa using c1
    replace c1 := of_decide_eq_true c1
    replace c1 := b2z.mp c1
    refine Pv.lit rfl ?_
    exact Pv.zret rfl (by rw [hQ]; exact ⟨b2_f (by unfold m_does; simp [c1]), rfl⟩)
set_option maxRecDepth 100000 in
set_option maxHeartbeats 4000000 in
theorem g_missedBy {F : FW} {o : Nat} {T : St} {S : Sh} (hT : XT F T) (hS : XS F (t_m T) S) (hG : GW F) (ho : o < t_m T) : Pm Z_X11_missedBy [.ref 69, .int (Int32.ofNat o)] F (fun r F' => r = some (.int (m_bits (fun m => m_does T S m o) id (t_m T))) ∧ F' = F) := by
  refine Pm.of fun N => ?_
  obtain ⟨Q, hQ⟩ : ∃ Q : Option Value → FW → Prop, Q = (fun r F' => r = some (.int (m_bits (fun m => m_does T S m o) id (t_m T))) ∧ F' = F) := ⟨_, rfl⟩
  rw [← hQ]
  have b3 := hT.mb
  have b4 := hT.nb
  have b5 := hT.gb
  have b6 := m_from_lt S
  have b7 := hS.db
  refine (show Pv (ab_T (L_X11_missedBy Z_X11_doesMiss)) N 0 [some (.ref 69), some (.int (Int32.ofNat o)), none, none] [] F Q from ?_)
  refine Pv.lit rfl ?_
  refine Pv.istore (lo' := [some (.ref 69), some (.int (Int32.ofNat o)), some (.int 0), none]) rfl rfl ?_
  refine Pv.lit rfl ?_
  refine Pv.istore (lo' := [some (.ref 69), some (.int (Int32.ofNat o)), some (.int 0), some (.int 0)]) rfl rfl ?_
  refine Pv.lp (ι := Nat × Int32) (lof := fun ⟨k, b⟩ => [some (.ref 69), some (.int (Int32.ofNat o)), some (.int b), some (.int (Int32.ofNat k))]) (Ff := fun ⟨k, b⟩ => F) (P := fun ⟨k, b⟩ => k ≤ t_m T ∧ b = m_bits (fun m => m_does T S m o) id k) ?_ (0, 0) (⟨Nat.zero_le _, rfl⟩)
  rintro N1 hN2 ⟨k, b⟩ hi3 ih4
  refine (show Pv _ _ 4 [some (.ref 69), some (.int (Int32.ofNat o)), some (.int b), some (.int (Int32.ofNat k))] [] F Q from ?_)
  obtain ⟨hk, hb⟩ := hi3
  refine Pv.iloadS rfl rfl ?_
  refine Pv.aload rfl rfl ?_
  refine Pv.getR (v := .ref 71) rfl rfl (GW.at (a := 69) (k := 6) (b := 71) hG (by decide)) ?_
  refine Pv.lit rfl ?_
  refine Pv.ald (z := Int32.ofNat (t_m T)) rfl (hT.m) ?_
  refine Pv.icmp rfl (fun c5 => ?_) (fun c5 => ?_)
  · skip
    replace c5 := (i_le (a := t_m T) (b := k) (by omega) (by omega)).mp (of_decide_eq_true c5)
    refine Pv.iload rfl rfl ?_
    exact Pv.ret rfl (by rw [hQ]; exact ⟨by rw [hb, show k = t_m T by omega], rfl⟩)
  · skip
    replace c5 := mt (i_le (a := t_m T) (b := k) (by omega) (by omega)).mpr (of_decide_eq_false c5)
    refine Pv.iload rfl rfl ?_
    refine Pv.aload rfl rfl ?_
    refine Pv.iload rfl rfl ?_
    refine Pv.iload rfl rfl ?_
    refine Pv.callVI (as := [.ref 69, .int (Int32.ofNat k), .int (Int32.ofNat o)]) (rest := [.int b]) (z := b2i (m_does T S k o)) rfl rfl rfl (g_doesMiss (m := k) (o := o) hT hS hG (by omega) (by omega)) ?_
    refine Pv.if0 rfl (fun c6 => ?_) (fun c6 => ?_)
    · skip
      replace c6 := of_decide_eq_true c6
      replace c6 := b2z.mp c6
      refine Pv.lit rfl ?_
      refine Pv.bin (z := b ||| 0) rfl (rfl) ?_
      refine Pv.istore (lo' := [some (.ref 69), some (.int (Int32.ofNat o)), some (.int (b ||| 0)), some (.int (Int32.ofNat k))]) rfl rfl ?_
      refine Pv.iinc (y := Int32.ofNat (k + 1)) (lo' := [some (.ref 69), some (.int (Int32.ofNat o)), some (.int (b ||| 0)), some (.int (Int32.ofNat (k + 1)))]) rfl rfl (i_add k 1) rfl ?_
      refine Pv.goto rfl ?_
      exact ih4 (k + 1, b ||| 0) (⟨by omega, by rw [m_bits_f (f := (fun m => m_does T S m o)) (g := id) (k := k) (by simp [c6]), ← hb]; exact i_or0 _⟩)
    · skip
      replace c6 := of_decide_eq_false c6
      replace c6 := b2n.mp c6
      refine Pv.lit rfl ?_
      refine Pv.iload rfl rfl ?_
      refine Pv.bin (z := 1 <<< ((Int32.ofNat k) &&& 31)) rfl (rfl) ?_
      refine Pv.goto rfl ?_
      refine Pv.bin (z := b ||| (1 <<< ((Int32.ofNat k) &&& 31))) rfl (rfl) ?_
      refine Pv.istore (lo' := [some (.ref 69), some (.int (Int32.ofNat o)), some (.int (b ||| (1 <<< ((Int32.ofNat k) &&& 31)))), some (.int (Int32.ofNat k))]) rfl rfl ?_
      refine Pv.iinc (y := Int32.ofNat (k + 1)) (lo' := [some (.ref 69), some (.int (Int32.ofNat o)), some (.int (b ||| (1 <<< ((Int32.ofNat k) &&& 31)))), some (.int (Int32.ofNat (k + 1)))]) rfl rfl (i_add k 1) rfl ?_
      refine Pv.goto rfl ?_
      exact ih4 (k + 1, b ||| (1 <<< ((Int32.ofNat k) &&& 31))) (⟨by omega, by rw [m_bits_t (f := (fun m => m_does T S m o)) (g := id) (k := k) (by simp [c6]), hb]; rfl⟩)
set_option maxRecDepth 100000 in
set_option maxHeartbeats 4000000 in
theorem g_goingSet {F : FW} {T : St} {S : Sh} (hT : XT F T) (hS : XS F (t_m T) S) (hG : GW F) (hD : h_d S < 400) : Pm Z_X11_goingSet [.ref 69] F (fun r F' => r = some (.int (m_board T S)) ∧ F' = fp F 69 22 (t_l T - (m_pm T S (t_m T)).2)) := by
  refine Pm.of fun N => ?_
  obtain ⟨Q, hQ⟩ : ∃ Q : Option Value → FW → Prop, Q = (fun r F' => r = some (.int (m_board T S)) ∧ F' = fp F 69 22 (t_l T - (m_pm T S (t_m T)).2)) := ⟨_, rfl⟩
  rw [← hQ]
  have b3 := hT.mb
  have b4 := hT.nb
  have b5 := hT.gb
  have b6 := m_from_lt S
  have b7 := hS.db
  have em : m_room T S = t_l T := if_pos hD
  have e0 : t_l T = t_l T - (m_pm T S 0).2 := (Int32.sub_zero _).symm
  refine (show Pv (ab_T (L_X11_goingSet Z_X11_isDead Z_X11_missedBy)) N 0 [some (.ref 69), none, none, none] [] F Q from ?_)
  refine Pv.aload rfl rfl ?_
  refine Pv.getR (v := .ref 71) rfl rfl (GW.at (a := 69) (k := 6) (b := 71) hG (by decide)) ?_
  refine Pv.lit rfl ?_
  refine Pv.ald (z := Int32.ofNat (h_d S)) rfl (hS.d) ?_
  refine Pv.lit rfl ?_
  refine Pv.irem (z := Int32.ofNat ((h_d S) % 2)) rfl (i_rem2 (by omega)) ?_
  refine Pv.istore (lo' := [some (.ref 69), some (.int (Int32.ofNat ((h_d S) % 2))), none, none]) rfl rfl ?_
  refine Pv.lit rfl ?_
  refine Pv.istore (lo' := [some (.ref 69), some (.int (Int32.ofNat ((h_d S) % 2))), some (.int 0), none]) rfl rfl ?_
  refine Pv.aload rfl rfl ?_
  refine Pv.aload rfl rfl ?_
  refine Pv.getR (v := .ref 71) rfl rfl (GW.at (a := 69) (k := 6) (b := 71) hG (by decide)) ?_
  refine Pv.lit rfl ?_
  refine Pv.ald (z := t_l T) rfl (hT.l) ?_
  refine Pv.putI rfl rfl ?_
  refine Pv.fE (congrArg (fp F 69 22) e0) ?_
  refine Pv.lit rfl ?_
  refine Pv.istore (lo' := [some (.ref 69), some (.int (Int32.ofNat ((h_d S) % 2))), some (.int 0), some (.int 0)]) rfl rfl ?_
  refine Pv.lp (ι := Nat × Int32) (lof := fun ⟨k, b⟩ => [some (.ref 69), some (.int (Int32.ofNat ((h_d S) % 2))), some (.int b), some (.int (Int32.ofNat k))]) (Ff := fun ⟨k, b⟩ => (fp F 69 22 (t_l T - (m_pm T S k).2))) (P := fun ⟨k, b⟩ => k ≤ t_m T ∧ b = (m_pm T S k).1) ?_ (0, 0) (⟨Nat.zero_le _, rfl⟩)
  rintro N1 hN2 ⟨k, b⟩ hi3 ih4
  refine (show Pv _ _ 24 [some (.ref 69), some (.int (Int32.ofNat ((h_d S) % 2))), some (.int b), some (.int (Int32.ofNat k))] [] (fp F 69 22 (t_l T - (m_pm T S k).2)) Q from ?_)
  obtain ⟨hk, hb⟩ := hi3
  refine Pv.iloadS rfl rfl ?_
  refine Pv.aload rfl rfl ?_
  refine Pv.getR (v := .ref 71) rfl rfl (GW.at (a := 69) (k := 6) (b := 71) hG (by decide)) ?_
  refine Pv.lit rfl ?_
  refine Pv.ald (z := Int32.ofNat (t_m T)) rfl ((fp_ne (Or.inl (by decide))).trans (hT.m)) ?_
  refine Pv.icmp rfl (fun c5 => ?_) (fun c5 => ?_)
  · skip
    replace c5 := (i_le (a := t_m T) (b := k) (by omega) (by omega)).mp (of_decide_eq_true c5)
    refine Pv.iload rfl rfl ?_
    exact Pv.ret rfl (by rw [hQ]; exact ⟨by rw [hb, show k = t_m T by omega]; rfl, by rw [show k = t_m T by omega]⟩)
  · skip
    replace c5 := mt (i_le (a := t_m T) (b := k) (by omega) (by omega)).mpr (of_decide_eq_false c5)
    refine Pv.aload rfl rfl ?_
    refine Pv.iload rfl rfl ?_
    refine Pv.callVI (as := [.ref 69, .int (Int32.ofNat k)]) (rest := []) (z := b2i (!m_alive S k)) rfl rfl rfl (g_isDead (o := 0) (m := k) (hS.xd.fx (P := fun q => q = 69) (((FX.rf (P := fun q => q = 69))).fp rfl) (by decide)) (hG.fx (P := fun _ => True) (((FX.rf (P := fun _ => True))).fp trivial)) (by omega)) ?_
    refine Pv.if0 rfl (fun c6 => ?_) (fun c6 => ?_)
    · skip
      replace c6 : decide (b2i (!m_alive S k) = 0) = false := by simpa using c6
      replace c6 := of_decide_eq_false c6
      replace c6 := b2n.mp c6
      refine Pv.iinc (y := Int32.ofNat (k + 1)) (lo' := [some (.ref 69), some (.int (Int32.ofNat ((h_d S) % 2))), some (.int b), some (.int (Int32.ofNat (k + 1)))]) rfl rfl (i_add k 1) rfl ?_
      refine Pv.goto rfl ?_
      refine Pv.fE (G := fp F 69 22 (t_l T - (m_pm T S (k + 1)).2)) (by rw [m_pm_f (Or.inr (Or.inl (m_dead_from (by simpa using c6))))]) ?_
      exact ih4 (k + 1, b) (⟨by omega, by rw [m_pm_f (Or.inr (Or.inl (m_dead_from (by simpa using c6))))]; exact hb⟩)
    · skip
      replace c6 : decide (b2i (!m_alive S k) = 0) = true := by simpa using c6
      replace c6 := of_decide_eq_true c6
      replace c6 := b2z.mp c6
      have a1 : m_alive S k = true := by simpa using c6
      refine Pv.aload rfl rfl ?_
      refine Pv.getR (v := .ref 71) rfl rfl (GW.at (a := 69) (k := 6) (b := 71) hG (by decide)) ?_
      refine Pv.lit rfl ?_
      refine Pv.iload rfl rfl ?_
      refine Pv.bin (z := Int32.ofNat (172 + k)) rfl (i_add 172 k) ?_
      refine Pv.ald (z := h_a S k) rfl (by rw [i_toNat (by omega)]; exact (fp_ne (Or.inl (by decide))).trans (hS.a (by omega) a1)) ?_
      refine Pv.iload rfl rfl ?_
      refine Pv.icmp rfl (fun c7 => ?_) (fun c7 => ?_)
      · skip
        replace c7 : decide (h_a S k = Int32.ofNat ((h_d S) % 2)) = false := by simpa using c7
        replace c7 := of_decide_eq_false c7
        refine Pv.iinc (y := Int32.ofNat (k + 1)) (lo' := [some (.ref 69), some (.int (Int32.ofNat ((h_d S) % 2))), some (.int b), some (.int (Int32.ofNat (k + 1)))]) rfl rfl (i_add k 1) rfl ?_
        refine Pv.goto rfl ?_
        refine Pv.fE (G := fp F 69 22 (t_l T - (m_pm T S (k + 1)).2)) (by rw [m_pm_f (Or.inr (Or.inl c7))]) ?_
        exact ih4 (k + 1, b) (⟨by omega, by rw [m_pm_f (Or.inr (Or.inl c7))]; exact hb⟩)
      · skip
        replace c7 : decide (h_a S k = Int32.ofNat ((h_d S) % 2)) = true := by simpa using c7
        replace c7 := of_decide_eq_true c7
        refine Pv.aload rfl rfl ?_
        refine Pv.getI (z := t_l T - (m_pm T S k).2) rfl rfl (fp_eq) ?_
        refine Pv.lit rfl ?_
        refine Pv.icmp rfl (fun c8 => ?_) (fun c8 => ?_)
        · skip
          replace c8 := of_decide_eq_true c8
          refine Pv.iinc (y := Int32.ofNat (k + 1)) (lo' := [some (.ref 69), some (.int (Int32.ofNat ((h_d S) % 2))), some (.int b), some (.int (Int32.ofNat (k + 1)))]) rfl rfl (i_add k 1) rfl ?_
          refine Pv.goto rfl ?_
          refine Pv.fE (G := fp F 69 22 (t_l T - (m_pm T S (k + 1)).2)) (by rw [m_pm_f (Or.inl (by rw [em]; exact c8))]) ?_
          exact ih4 (k + 1, b) (⟨by omega, by rw [m_pm_f (Or.inl (by rw [em]; exact c8))]; exact hb⟩)
        · skip
          replace c8 := of_decide_eq_false c8
          refine Pv.aload rfl rfl ?_
          refine Pv.iload rfl rfl ?_
          refine Pv.callVI (as := [.ref 69, .int (Int32.ofNat k)]) (rest := []) (z := m_bits (fun m => m_does T S m k) id (t_m T)) rfl rfl rfl (g_missedBy (o := k) (hT.fx (P := fun q => q = 69) (((FX.rf (P := fun q => q = 69))).fp rfl) (by decide)) (hS.fx (P := fun q => q = 69) b3 (((FX.rf (P := fun q => q = 69))).fp rfl) (by decide)) (hG.fx (P := fun _ => True) (((FX.rf (P := fun _ => True))).fp trivial)) (by omega)) ?_
          refine Pv.if0 rfl (fun c9 => ?_) (fun c9 => ?_)
          · skip
            replace c9 : decide (m_bits (fun m => m_does T S m k) id (t_m T) = 0) = false := by simpa using c9
            replace c9 := of_decide_eq_false c9
            refine Pv.iload rfl rfl ?_
            refine Pv.lit rfl ?_
            refine Pv.iload rfl rfl ?_
            refine Pv.bin (z := 1 <<< ((Int32.ofNat k) &&& 31)) rfl (rfl) ?_
            refine Pv.bin (z := b ||| (1 <<< ((Int32.ofNat k) &&& 31))) rfl (rfl) ?_
            refine Pv.istore (lo' := [some (.ref 69), some (.int (Int32.ofNat ((h_d S) % 2))), some (.int (b ||| (1 <<< ((Int32.ofNat k) &&& 31)))), some (.int (Int32.ofNat k))]) rfl rfl ?_
            refine Pv.aload rfl rfl ?_
            refine Pv.dup rfl ?_
            refine Pv.getI (z := t_l T - (m_pm T S k).2) rfl rfl (fp_eq) ?_
            refine Pv.lit rfl ?_
            refine Pv.bin (z := (t_l T - (m_pm T S k).2) - 2) rfl (rfl) ?_
            refine Pv.putI rfl rfl ?_
            refine Pv.iinc (y := Int32.ofNat (k + 1)) (lo' := [some (.ref 69), some (.int (Int32.ofNat ((h_d S) % 2))), some (.int (b ||| (1 <<< ((Int32.ofNat k) &&& 31)))), some (.int (Int32.ofNat (k + 1)))]) rfl rfl (i_add k 1) rfl ?_
            refine Pv.goto rfl ?_
            refine Pv.fE (G := fp F 69 22 (t_l T - (m_pm T S (k + 1)).2)) (fp_fp.trans (by rw [m_pm_t (by rw [em]; exact c8) c7 (by rw [m_missed_0 hT.w (by omega), decide_eq_false c9]; rfl), i_ss])) ?_
            exact ih4 (k + 1, b ||| (1 <<< ((Int32.ofNat k) &&& 31))) (⟨by omega, by rw [m_pm_t (by rw [em]; exact c8) c7 (by rw [m_missed_0 hT.w (by omega), decide_eq_false c9]; rfl), hb]⟩)
          · skip
            replace c9 : decide (m_bits (fun m => m_does T S m k) id (t_m T) = 0) = true := by simpa using c9
            replace c9 := of_decide_eq_true c9
            refine Pv.goto rfl ?_
            refine Pv.iinc (y := Int32.ofNat (k + 1)) (lo' := [some (.ref 69), some (.int (Int32.ofNat ((h_d S) % 2))), some (.int b), some (.int (Int32.ofNat (k + 1)))]) rfl rfl (i_add k 1) rfl ?_
            refine Pv.goto rfl ?_
            refine Pv.fE (G := fp F 69 22 (t_l T - (m_pm T S (k + 1)).2)) (by rw [m_pm_f (Or.inr (Or.inr (by rw [m_missed_0 hT.w (by omega), decide_eq_true c9]; rfl)))]) ?_
            exact ih4 (k + 1, b) (⟨by omega, by rw [m_pm_f (Or.inr (Or.inr (by rw [m_missed_0 hT.w (by omega), decide_eq_true c9]; rfl)))]; exact hb⟩)
set_option maxRecDepth 100000 in
set_option maxHeartbeats 4000000 in
theorem g_lackOf {F : FW} {g s : Nat} {w x : Int32} (hG : GW F) (hb : g < 1000) (hb2 : s < 1000) (h1 : F.1 71 (16 + (2 * g + s)) = w) (h2 : F.1 71 (124 + (2 * g + s)) = x) : Pm Z_X11_lackOf [.ref 69, .int (Int32.ofNat g), .int (Int32.ofNat s)] F (fun r F' => r = some (.int (m_lackr w x)) ∧ F' = F) := by
  refine Pm.of fun N => ?_
  obtain ⟨Q, hQ⟩ : ∃ Q : Option Value → FW → Prop, Q = (fun r F' => r = some (.int (m_lackr w x)) ∧ F' = F) := ⟨_, rfl⟩
  rw [← hQ]
  refine (show Pv (ab_T (L_X11_lackOf Z_X11_cell)) N 0 [some (.ref 69), some (.int (Int32.ofNat g)), some (.int (Int32.ofNat s)), none] [] F Q from ?_)
  refine Pv.aload rfl rfl ?_
  refine Pv.getR (v := .ref 71) rfl rfl (GW.at (a := 69) (k := 6) (b := 71) hG (by decide)) ?_
  refine Pv.lit rfl ?_
  refine Pv.iload rfl rfl ?_
  refine Pv.iload rfl rfl ?_
  refine Pv.callI (as := [.int (Int32.ofNat g), .int (Int32.ofNat s)]) (rest := [.int 16, .ref 71]) (z := Int32.ofNat (2 * g + s)) rfl rfl rfl (g_cell (g := g) (s := s)) ?_
  refine Pv.bin (z := Int32.ofNat (16 + (2 * g + s))) rfl (i_add 16 (2 * g + s)) ?_
  refine Pv.ald (z := w) rfl (by rw [i_toNat (by omega)]; exact h1) ?_
  refine Pv.aload rfl rfl ?_
  refine Pv.getR (v := .ref 71) rfl rfl (GW.at (a := 69) (k := 6) (b := 71) hG (by decide)) ?_
  refine Pv.lit rfl ?_
  refine Pv.iload rfl rfl ?_
  refine Pv.iload rfl rfl ?_
  refine Pv.callI (as := [.int (Int32.ofNat g), .int (Int32.ofNat s)]) (rest := [.int 124, .ref 71, .int w]) (z := Int32.ofNat (2 * g + s)) rfl rfl rfl (g_cell (g := g) (s := s)) ?_
  refine Pv.bin (z := Int32.ofNat (124 + (2 * g + s))) rfl (i_add 124 (2 * g + s)) ?_
  refine Pv.ald (z := x) rfl (by rw [i_toNat (by omega)]; exact h2) ?_
  refine Pv.bin (z := w - x) rfl (rfl) ?_
  refine Pv.istore (lo' := [some (.ref 69), some (.int (Int32.ofNat g)), some (.int (Int32.ofNat s)), some (.int (w - x))]) rfl rfl ?_
  refine Pv.iload rfl rfl ?_
  refine Pv.if0 rfl (fun c1 => ?_) (fun c1 => ?_)
  · skip
    replace c1 := of_decide_eq_true c1
    refine Pv.lit rfl ?_
    exact Pv.ret rfl (by rw [hQ]; exact ⟨by unfold m_lackr; rw [if_pos c1], rfl⟩)
  · skip
    replace c1 := of_decide_eq_false c1
    refine Pv.iload rfl rfl ?_
    refine Pv.goto rfl ?_
    exact Pv.ret rfl (by rw [hQ]; exact ⟨by unfold m_lackr; rw [if_neg c1], rfl⟩)
set_option maxRecDepth 100000 in
set_option maxHeartbeats 4000000 in
theorem g_goesOf {F : FW} {g d : Nat} {rm x y w : Int32} (hG : GW F) (hb : g < 900) (hb2 : d ≤ 400) (h0 : F.1 69 22 = rm) (hd : F.1 71 120 = Int32.ofNat d) (h1 : F.1 71 (124 + (2 * g + (d % 2))) = x) (h2 : F.1 71 (124 + (2 * g + (1 - (d % 2)))) = y) (h3 : F.1 71 (16 + (2 * g + (1 - (d % 2)))) = w) : Pm Z_X11_goesOf [.ref 69, .int (Int32.ofNat g)] F (fun r F' => r = some (.int (m_less rm (m_less x (m_lackr w y)))) ∧ F' = F) := by
  refine Pm.of fun N => ?_
  obtain ⟨Q, hQ⟩ : ∃ Q : Option Value → FW → Prop, Q = (fun r F' => r = some (.int (m_less rm (m_less x (m_lackr w y)))) ∧ F' = F) := ⟨_, rfl⟩
  rw [← hQ]
  refine (show Pv (ab_T (L_X11_goesOf Z_X11_cell Z_X11_lackOf Z_X11_lesser)) N 0 [some (.ref 69), some (.int (Int32.ofNat g)), none] [] F Q from ?_)
  refine Pv.aload rfl rfl ?_
  refine Pv.getR (v := .ref 71) rfl rfl (GW.at (a := 69) (k := 6) (b := 71) hG (by decide)) ?_
  refine Pv.lit rfl ?_
  refine Pv.ald (z := Int32.ofNat d) rfl (hd) ?_
  refine Pv.lit rfl ?_
  refine Pv.irem (z := Int32.ofNat (d % 2)) rfl (i_rem2 (by omega)) ?_
  refine Pv.istore (lo' := [some (.ref 69), some (.int (Int32.ofNat g)), some (.int (Int32.ofNat (d % 2)))]) rfl rfl ?_
  refine Pv.aload rfl rfl ?_
  refine Pv.getI (z := rm) rfl rfl (h0) ?_
  refine Pv.aload rfl rfl ?_
  refine Pv.getR (v := .ref 71) rfl rfl (GW.at (a := 69) (k := 6) (b := 71) hG (by decide)) ?_
  refine Pv.lit rfl ?_
  refine Pv.iload rfl rfl ?_
  refine Pv.iload rfl rfl ?_
  refine Pv.callI (as := [.int (Int32.ofNat g), .int (Int32.ofNat (d % 2))]) (rest := [.int 124, .ref 71, .int rm]) (z := Int32.ofNat (2 * g + (d % 2))) rfl rfl rfl (g_cell (g := g) (s := d % 2)) ?_
  refine Pv.bin (z := Int32.ofNat (124 + (2 * g + (d % 2)))) rfl (i_add 124 (2 * g + (d % 2))) ?_
  refine Pv.ald (z := x) rfl (by rw [i_toNat (by omega)]; exact h1) ?_
  refine Pv.aload rfl rfl ?_
  refine Pv.iload rfl rfl ?_
  refine Pv.lit rfl ?_
  refine Pv.iload rfl rfl ?_
  refine Pv.bin (z := Int32.ofNat (1 - (d % 2))) rfl (i_1m (by omega)) ?_
  refine Pv.callVI (as := [.ref 69, .int (Int32.ofNat g), .int (Int32.ofNat (1 - (d % 2)))]) (rest := [.int x, .int rm]) (z := m_lackr w y) rfl rfl rfl (g_lackOf (g := g) (s := 1 - (d % 2)) (w := w) (x := y) hG (by omega) (by omega) (h3) (h2)) ?_
  refine Pv.callI (as := [.int x, .int (m_lackr w y)]) (rest := [.int rm]) (z := m_less x (m_lackr w y)) rfl rfl rfl (g_lesser (x := x) (y := m_lackr w y)) ?_
  refine Pv.callI (as := [.int rm, .int (m_less x (m_lackr w y))]) (rest := []) (z := m_less rm (m_less x (m_lackr w y))) rfl rfl rfl (g_lesser (x := rm) (y := m_less x (m_lackr w y))) ?_
  exact Pv.ret rfl (by rw [hQ]; exact ⟨rfl, rfl⟩)
set_option maxRecDepth 100000 in
set_option maxHeartbeats 4000000 in
theorem g_tries {F : FW} (hG : GW F) : Pm Z_X11_tries [.ref 69] F (fun r F' => r = none ∧ FX (fun q => q = 78) F F' ∧ ∀ k, k < 133 → F'.1 78 k = F.1 71 (120 + k)) := by
  refine Pm.of fun N => ?_
  obtain ⟨Q, hQ⟩ : ∃ Q : Option Value → FW → Prop, Q = (fun r F' => r = none ∧ FX (fun q => q = 78) F F' ∧ ∀ k, k < 133 → F'.1 78 k = F.1 71 (120 + k)) := ⟨_, rfl⟩
  rw [← hQ]
  refine (show Pv (ab_T L_X11_tries) N 0 [some (.ref 69), none] [] F Q from ?_)
  refine Pv.lit rfl ?_
  refine Pv.istore (lo' := [some (.ref 69), some (.int 0)]) rfl rfl ?_
  refine Pv.lp (ι := Nat × FW) (lof := fun ⟨k, G⟩ => [some (.ref 69), some (.int (Int32.ofNat k))]) (Ff := fun ⟨k, G⟩ => G) (P := fun ⟨k, G⟩ => (k ≤ 133) ∧ (FX (fun q => q = 78) F G) ∧ (AR G 78 k (fun j => F.1 71 (120 + j)))) ?_ (0, F) (⟨Nat.zero_le _, FX.rf, AR.z⟩)
  rintro N1 hN2 ⟨k, G⟩ hi3 ih4
  refine (show Pv _ _ 2 [some (.ref 69), some (.int (Int32.ofNat k))] [] G Q from ?_)
  obtain ⟨hk, hxG, hA⟩ := hi3
  have hx5 := hG.fx (P := fun q => q = 78) hxG
  refine Pv.iloadS rfl rfl ?_
  refine Pv.lit rfl ?_
  refine Pv.icmp rfl (fun c6 => ?_) (fun c6 => ?_)
  · skip
    replace c6 := (i_le (a := 133) (b := k) (by omega) (by omega)).mp (of_decide_eq_true c6)
    exact Pv.vret rfl (by rw [hQ]; exact ⟨rfl, hxG, fun j hj => hA j (by omega)⟩)
  · skip
    replace c6 := mt (i_le (a := 133) (b := k) (by omega) (by omega)).mpr (of_decide_eq_false c6)
    refine Pv.aload rfl rfl ?_
    refine Pv.getR (v := .ref 78) rfl rfl (GW.at (a := 69) (k := 24) (b := 78) hx5 (by decide)) ?_
    refine Pv.iload rfl rfl ?_
    refine Pv.aload rfl rfl ?_
    refine Pv.getR (v := .ref 71) rfl rfl (GW.at (a := 69) (k := 6) (b := 71) hx5 (by decide)) ?_
    refine Pv.lit rfl ?_
    refine Pv.iload rfl rfl ?_
    refine Pv.bin (z := Int32.ofNat (120 + k)) rfl (i_add 120 k) ?_
    refine Pv.ald (z := F.1 71 (120 + k)) rfl (by rw [i_toNat (by omega)]; exact hxG.1 71 _ (by decide)) ?_
    refine Pv.astk (k := k) (z := F.1 71 (120 + k)) rfl (i_toNat (by omega)) (rfl) ?_
    refine Pv.iinc (y := Int32.ofNat (k + 1)) (lo' := [some (.ref 69), some (.int (Int32.ofNat (k + 1)))]) rfl rfl (i_add k 1) rfl ?_
    refine Pv.goto rfl ?_
    exact ih4 (k + 1, (fp G 78 k (F.1 71 (120 + k)))) (⟨by omega, (hxG).fp (show 78 = 78 by omega), (hA).ext (rfl)⟩)
set_option maxRecDepth 100000 in
set_option maxHeartbeats 4000000 in
theorem g_back {F : FW} (hG : GW F) : Pm Z_X11_back [.ref 69] F (fun r F' => r = none ∧ FX (fun q => q = 71) F F' ∧ (∀ k, k < 133 → F'.1 71 (120 + k) = F.1 78 k) ∧ ∀ k, k < 120 ∨ 253 ≤ k → F'.1 71 k = F.1 71 k) := by
  refine Pm.of fun N => ?_
  obtain ⟨Q, hQ⟩ : ∃ Q : Option Value → FW → Prop, Q = (fun r F' => r = none ∧ FX (fun q => q = 71) F F' ∧ (∀ k, k < 133 → F'.1 71 (120 + k) = F.1 78 k) ∧ ∀ k, k < 120 ∨ 253 ≤ k → F'.1 71 k = F.1 71 k) := ⟨_, rfl⟩
  rw [← hQ]
  refine (show Pv (ab_T L_X11_back) N 0 [some (.ref 69), none] [] F Q from ?_)
  refine Pv.lit rfl ?_
  refine Pv.istore (lo' := [some (.ref 69), some (.int 0)]) rfl rfl ?_
  refine Pv.lp (ι := Nat × FW) (lof := fun ⟨k, G⟩ => [some (.ref 69), some (.int (Int32.ofNat k))]) (Ff := fun ⟨k, G⟩ => G) (P := fun ⟨k, G⟩ => (k ≤ 133) ∧ (FX (fun q => q = 71) F G) ∧ (∀ j, j < k → G.1 71 (120 + j) = F.1 78 j) ∧ (∀ j, j < 120 ∨ 253 ≤ j → G.1 71 j = F.1 71 j)) ?_ (0, F) (⟨Nat.zero_le _, FX.rf, fun j hj => absurd hj (Nat.not_lt_zero j), fun _ _ => rfl⟩)
  rintro N1 hN2 ⟨k, G⟩ hi3 ih4
  refine (show Pv _ _ 2 [some (.ref 69), some (.int (Int32.ofNat k))] [] G Q from ?_)
  obtain ⟨hk, hxG, hA, hB⟩ := hi3
  have hx5 := hG.fx (P := fun q => q = 71) hxG
  refine Pv.iloadS rfl rfl ?_
  refine Pv.lit rfl ?_
  refine Pv.icmp rfl (fun c6 => ?_) (fun c6 => ?_)
  · skip
    replace c6 := (i_le (a := 133) (b := k) (by omega) (by omega)).mp (of_decide_eq_true c6)
    exact Pv.vret rfl (by rw [hQ]; exact ⟨rfl, hxG, fun j hj => hA j (by omega), hB⟩)
  · skip
    replace c6 := mt (i_le (a := 133) (b := k) (by omega) (by omega)).mpr (of_decide_eq_false c6)
    refine Pv.aload rfl rfl ?_
    refine Pv.getR (v := .ref 71) rfl rfl (GW.at (a := 69) (k := 6) (b := 71) hx5 (by decide)) ?_
    refine Pv.lit rfl ?_
    refine Pv.iload rfl rfl ?_
    refine Pv.bin (z := Int32.ofNat (120 + k)) rfl (i_add 120 k) ?_
    refine Pv.aload rfl rfl ?_
    refine Pv.getR (v := .ref 78) rfl rfl (GW.at (a := 69) (k := 24) (b := 78) hx5 (by decide)) ?_
    refine Pv.iload rfl rfl ?_
    refine Pv.ald (z := F.1 78 k) rfl (by rw [i_toNat (by omega)]; exact hxG.1 78 _ (by decide)) ?_
    refine Pv.astk (k := 120 + k) (z := F.1 78 k) rfl (i_toNat (by omega)) (rfl) ?_
    refine Pv.iinc (y := Int32.ofNat (k + 1)) (lo' := [some (.ref 69), some (.int (Int32.ofNat (k + 1)))]) rfl rfl (i_add k 1) rfl ?_
    refine Pv.goto rfl ?_
    exact ih4 (k + 1, (fp G 71 (120 + k) (F.1 78 k))) (⟨by omega, (hxG).fp (show 71 = 71 by omega), fun j hj => Or.elim (Classical.em (j = k)) (fun e => by rw [e]; exact fp_eq) (fun e => (fp_ne (Or.inr (by omega))).trans (hA j (by omega))), fun j hj => (fp_ne (Or.inr (by omega))).trans (hB j hj)⟩)
end
-- 63.b49.r2.lean.txt
section
set_option maxRecDepth 100000 in
set_option maxHeartbeats 4000000 in
theorem g_day {F : FW} {T : St} {S : Sh} (hT : XT F T) (hS : XS F (t_m T) S) (hG : GW F) (hTB : TBB T) (hSB : SB S) (hD : h_d S < 400) : Pm Z_X11_day [.ref 69] F (fun r F' => r = none ∧ RX F F' ∧ XS F' (t_m T) (m_day T S)) := by
  refine Pm.of fun N => ?_
  obtain ⟨Q, hQ⟩ : ∃ Q : Option Value → FW → Prop, Q = (fun r F' => r = none ∧ RX F F' ∧ XS F' (t_m T) (m_day T S)) := ⟨_, rfl⟩
  rw [← hQ]
  have b3 := hT.mb
  have b4 := hT.nb
  have b5 := hT.gb
  have b6 := m_from_lt S
  have b7 := hS.db
  refine (show Pv (ab_T (L_X11_day Z_X11_goingSet Z_X11_bitOf Z_X11_goesOf Z_X11_cell Z_X11_eats Z_X11_areUnlike)) N 0 [some (.ref 69), none, none, none, none] [] F Q from ?_)
  refine Pv.lit rfl ?_
  refine Pv.aload rfl rfl ?_
  refine Pv.getR (v := .ref 71) rfl rfl (GW.at (a := 69) (k := 6) (b := 71) hG (by decide)) ?_
  refine Pv.lit rfl ?_
  refine Pv.ald (z := Int32.ofNat (h_d S)) rfl (hS.d) ?_
  refine Pv.lit rfl ?_
  refine Pv.irem (z := Int32.ofNat (m_from S)) rfl (i_rem2 (by omega)) ?_
  refine Pv.bin (z := Int32.ofNat (1 - m_from S)) rfl (i_1m (by omega)) ?_
  refine Pv.istore (lo' := [some (.ref 69), some (.int (Int32.ofNat (1 - m_from S))), none, none, none]) rfl rfl ?_
  refine Pv.aload rfl rfl ?_
  refine Pv.callVI (as := [.ref 69]) (rest := []) (z := m_board T S) rfl rfl rfl (g_goingSet  hT hS hG (by omega)) ?_
  refine Pv.istore (lo' := [some (.ref 69), some (.int (Int32.ofNat (1 - m_from S))), some (.int (m_board T S)), none, none]) rfl rfl ?_
  refine Pv.lit rfl ?_
  refine Pv.istore (lo' := [some (.ref 69), some (.int (Int32.ofNat (1 - m_from S))), some (.int (m_board T S)), some (.int 0), none]) rfl rfl ?_
  refine Pv.lp (ι := Nat × FW) (lof := fun ⟨k, GA⟩ => [some (.ref 69), some (.int (Int32.ofNat (1 - m_from S))), some (.int (m_board T S)), some (.int (Int32.ofNat k)), none]) (Ff := fun ⟨k, GA⟩ => GA) (P := fun ⟨k, GA⟩ => (k ≤ t_m T) ∧ (RX F GA) ∧ (GA.1 71 120 = Int32.ofNat (h_d S)) ∧ (GA.1 71 121 = h_i S) ∧ (GA.1 71 122 = h_r S) ∧ (GA.1 71 123 = m_sum (h_u S) 12) ∧ (GA.1 71 180 = F.1 71 180) ∧ (GA.1 69 22 = t_l T - m_pg T S 0) ∧ (AX GA 124 12 (h_s S)) ∧ (AX GA 136 12 (h_h S)) ∧ (AX GA 148 12 (h_u S)) ∧ (AX GA 160 12 (h_c S)) ∧ (AX GA 181 (t_m T) (m_cT T S k)) ∧ (∀ j, j < t_m T → m_alive S j = true → GA.1 71 (172 + j) = m_cA T S k j) ∧ (∀ a b, a < t_m T → b < t_m T → a ≠ b → m_alive S a = true → m_alive S b = true → GA.1 71 (189 + 8 * a + b) = m_apart S a b)) ?_ (0, (fp F 69 22 (t_l T - (m_pm T S (t_m T)).2))) (⟨Nat.zero_le _, (RX.rf).r, (fp_ne (Or.inl (by decide))).trans (hS.d), (fp_ne (Or.inl (by decide))).trans (hS.i), (fp_ne (Or.inl (by decide))).trans (hS.r), (fp_ne (Or.inl (by decide))).trans (hS.st), fp_ne (Or.inl (by decide)), fp_eq, (hS.s).no (by decide), (hS.h).no (by decide), (hS.u).no (by decide), (hS.c).no (by decide), (hS.t).no (by decide), fun j hj l => (fp_ne (Or.inl (by decide))).trans (hS.a hj l), fun a b ha hb hn l1 l2 => (fp_ne (Or.inl (by decide))).trans (hS.p ha hb hn l1 l2)⟩)
  rintro N1 hN2 ⟨k, GA⟩ hi3 ih4
  refine (show Pv _ _ 19 [some (.ref 69), some (.int (Int32.ofNat (1 - m_from S))), some (.int (m_board T S)), some (.int (Int32.ofNat k)), none] [] GA Q from ?_)
  obtain ⟨hk, hxGA, hA0, hA1, hA2, hA3, hAd, hAr, hA_s, hA_h, hA_u, hA_c, hA_t, hAt, hAp⟩ := hi3
  have hx5 := hxGA.T hT
  have hx6 := hxGA.G hG
  refine Pv.iloadS rfl rfl ?_
  refine Pv.aload rfl rfl ?_
  refine Pv.getR (v := .ref 71) rfl rfl (GW.at (a := 69) (k := 6) (b := 71) hx6 (by decide)) ?_
  refine Pv.lit rfl ?_
  refine Pv.ald (z := Int32.ofNat (t_m T)) rfl (hx5.m) ?_
  refine Pv.icmp rfl (fun c7 => ?_) (fun c7 => ?_)
  · skip
    replace c7 := (i_le (a := t_m T) (b := k) (by omega) (by omega)).mp (of_decide_eq_true c7)
    have ek : k = t_m T := by omega
    rw [ek] at hA_t hAt
    refine Pv.lit rfl ?_
    refine Pv.istore (lo' := [some (.ref 69), some (.int (Int32.ofNat (1 - m_from S))), some (.int (m_board T S)), some (.int 0), none]) rfl rfl ?_
    refine Pv.lp (ι := Nat × FW × (Option Value)) (lof := fun ⟨g, GB, o8⟩ => [some (.ref 69), some (.int (Int32.ofNat (1 - m_from S))), some (.int (m_board T S)), some (.int (Int32.ofNat g)), o8]) (Ff := fun ⟨g, GB, o8⟩ => GB) (P := fun ⟨g, GB, o8⟩ => (g ≤ t_g T) ∧ (RX F GB) ∧ (GB.1 71 120 = Int32.ofNat (h_d S)) ∧ (GB.1 71 121 = h_i S) ∧ (GB.1 71 122 = h_r S) ∧ (GB.1 71 123 = m_sum (h_u S) 12) ∧ (GB.1 71 180 = F.1 71 180) ∧ (GB.1 69 22 = t_l T - m_pg T S g) ∧ (AX GB 124 12 (m_cS T S g)) ∧ (AX GB 136 12 (h_h S)) ∧ (AX GB 148 12 (h_u S)) ∧ (AX GB 160 12 (m_cC T S g)) ∧ (AX GB 181 (t_m T) (m_cT T S (t_m T))) ∧ (∀ j, j < t_m T → m_alive S j = true → GB.1 71 (172 + j) = m_cA T S (t_m T) j) ∧ (∀ a b, a < t_m T → b < t_m T → a ≠ b → m_alive S a = true → m_alive S b = true → GB.1 71 (189 + 8 * a + b) = m_apart S a b)) ?_ (0, GA, none) (⟨Nat.zero_le _, hxGA, hA0, hA1, hA2, hA3, hAd, hAr, hA_s, hA_h, hA_u, hA_c, hA_t, hAt, hAp⟩)
    rintro N9 hN10 ⟨g, GB, o8⟩ hi11 ih12
    refine (show Pv _ _ 73 [some (.ref 69), some (.int (Int32.ofNat (1 - m_from S))), some (.int (m_board T S)), some (.int (Int32.ofNat g)), o8] [] GB Q from ?_)
    obtain ⟨hg, hxGB, hB0, hB1, hB2, hB3, hBd, hBr, hB_s, hB_h, hB_u, hB_c, hB_t, hBt, hBp⟩ := hi11
    have hx13 := hxGB.T hT
    have hx14 := hxGB.G hG
    refine Pv.iloadS rfl rfl ?_
    refine Pv.aload rfl rfl ?_
    refine Pv.getR (v := .ref 71) rfl rfl (GW.at (a := 69) (k := 6) (b := 71) hx14 (by decide)) ?_
    refine Pv.lit rfl ?_
    refine Pv.ald (z := Int32.ofNat (t_g T)) rfl (hx13.g) ?_
    refine Pv.icmp rfl (fun c15 => ?_) (fun c15 => ?_)
    · skip
      replace c15 := (i_le (a := t_g T) (b := g) (by omega) (by omega)).mp (of_decide_eq_true c15)
      have ek : g = t_g T := by omega
      rw [ek] at hB_s hB_c hBr
      refine Pv.aload rfl rfl ?_
      refine Pv.getR (v := .ref 71) rfl rfl (GW.at (a := 69) (k := 6) (b := 71) hx14 (by decide)) ?_
      refine Pv.lit rfl ?_
      refine Pv.dup2 rfl ?_
      refine Pv.ald (z := h_r S) rfl (hB2) ?_
      refine Pv.aload rfl rfl ?_
      refine Pv.getR (v := .ref 71) rfl rfl (GW.at (a := 69) (k := 6) (b := 71) hx14 (by decide)) ?_
      refine Pv.lit rfl ?_
      refine Pv.ald (z := t_l T) rfl (hx13.l) ?_
      refine Pv.aload rfl rfl ?_
      refine Pv.getI (z := t_l T - m_pg T S (t_g T)) rfl rfl (hBr) ?_
      refine Pv.bin (z := (t_l T) - (t_l T - m_pg T S (t_g T))) rfl (rfl) ?_
      refine Pv.bin (z := h_r S + m_pg T S (t_g T)) rfl (congrArg (h_r S + ·) (i_asb _ _)) ?_
      refine Pv.astk (k := 122) (z := h_r S + m_pg T S (t_g T)) rfl (rfl) (rfl) ?_
      have cut16 : Pv (ab_T (L_X11_day Z_X11_goingSet Z_X11_bitOf Z_X11_goesOf Z_X11_cell Z_X11_eats Z_X11_areUnlike)) N9 213 [some (.ref 69), some (.int (Int32.ofNat (1 - m_from S))), some (.int (m_board T S)), some (.int (Int32.ofNat g)), o8] [] (fp (fp GB 71 122 (h_r S + m_pg T S (t_g T))) 71 121 (if m_pg T S (t_g T) = 0 then h_i S + 1 else h_i S)) Q := by
        refine Pv.lit rfl ?_
        refine Pv.istore (lo' := [some (.ref 69), some (.int (Int32.ofNat (1 - m_from S))), some (.int (m_board T S)), some (.int 0), o8]) rfl rfl ?_
        refine Pv.lp (ι := Nat × FW × (Option Value)) (lof := fun ⟨k, GC, o17⟩ => [some (.ref 69), some (.int (Int32.ofNat (1 - m_from S))), some (.int (m_board T S)), some (.int (Int32.ofNat k)), o17]) (Ff := fun ⟨k, GC, o17⟩ => GC) (P := fun ⟨k, GC, o17⟩ => (k ≤ 2 * t_g T) ∧ (RX F GC) ∧ (GC.1 71 120 = Int32.ofNat (h_d S)) ∧ (GC.1 71 121 = (if m_pg T S (t_g T) = 0 then h_i S + 1 else h_i S)) ∧ (GC.1 71 122 = h_r S + m_pg T S (t_g T)) ∧ (GC.1 71 123 = m_sum (m_eU T (m_carry T S) k) 12) ∧ (GC.1 71 180 = F.1 71 180) ∧ (GC.1 69 22 = t_l T - m_pg T S (t_g T)) ∧ (AX GC 124 12 (m_eS T (m_carry T S) k)) ∧ (AX GC 136 12 (h_h S)) ∧ (AX GC 148 12 (m_eU T (m_carry T S) k)) ∧ (AX GC 160 12 (m_cC T S (t_g T))) ∧ (AX GC 181 (t_m T) (m_cT T S (t_m T))) ∧ (∀ j, j < t_m T → m_alive S j = true → GC.1 71 (172 + j) = m_cA T S (t_m T) j) ∧ (∀ a b, a < t_m T → b < t_m T → a ≠ b → m_alive S a = true → m_alive S b = true → GC.1 71 (189 + 8 * a + b) = m_apart S a b)) ?_ (0, (fp (fp GB 71 122 (h_r S + m_pg T S (t_g T))) 71 121 (if m_pg T S (t_g T) = 0 then h_i S + 1 else h_i S)), o8) (⟨Nat.zero_le _, ((hxGB).s (by omega) (by omega)).s (by omega) (by omega), (fp_ne (Or.inr (by decide))).trans ((fp_ne (Or.inr (by decide))).trans (hB0)), fp_eq, (fp_ne (Or.inr (by decide))).trans (fp_eq), (fp_ne (Or.inr (by decide))).trans ((fp_ne (Or.inr (by decide))).trans (hB3)), (fp_ne (Or.inr (by decide))).trans ((fp_ne (Or.inr (by decide))).trans (hBd)), (fp_ne (Or.inl (by decide))).trans ((fp_ne (Or.inl (by decide))).trans (hBr)), ((hB_s).ne (by omega)).ne (by omega), ((hB_h).ne (by omega)).ne (by omega), ((hB_u).ne (by omega)).ne (by omega), ((hB_c).ne (by omega)).ne (by omega), ((hB_t).ne (by omega)).ne (by omega), fun j hj l => (fp_ne (Or.inr (by omega))).trans ((fp_ne (Or.inr (by omega))).trans (hBt j hj l)), fun a b ha hb hn l1 l2 => (fp_ne (Or.inr (by omega))).trans ((fp_ne (Or.inr (by omega))).trans (hBp a b ha hb hn l1 l2))⟩)
        rintro N18 hN19 ⟨k, GC, o17⟩ hi20 ih21
        refine (show Pv _ _ 215 [some (.ref 69), some (.int (Int32.ofNat (1 - m_from S))), some (.int (m_board T S)), some (.int (Int32.ofNat k)), o17] [] GC Q from ?_)
        obtain ⟨hk, hxGC, hC0, hC1, hC2, hC3, hCd, hCr, hC_s, hC_h, hC_u, hC_c, hC_t, hCt, hCp⟩ := hi20
        have hx22 := hxGC.T hT
        have hx23 := hxGC.G hG
        refine Pv.iloadS rfl rfl ?_
        refine Pv.lit rfl ?_
        refine Pv.aload rfl rfl ?_
        refine Pv.getR (v := .ref 71) rfl rfl (GW.at (a := 69) (k := 6) (b := 71) hx23 (by decide)) ?_
        refine Pv.lit rfl ?_
        refine Pv.ald (z := Int32.ofNat (t_g T)) rfl (hx22.g) ?_
        refine Pv.bin (z := Int32.ofNat (2 * (t_g T))) rfl (i_mul 2 (t_g T)) ?_
        refine Pv.icmp rfl (fun c24 => ?_) (fun c24 => ?_)
        · skip
          replace c24 := (i_le (a := 2 * (t_g T)) (b := k) (by omega) (by omega)).mp (of_decide_eq_true c24)
          have ek : k = 2 * t_g T := by omega
          rw [ek] at hC_s hC_u hC3
          refine Pv.lit rfl ?_
          refine Pv.istore (lo' := [some (.ref 69), some (.int (Int32.ofNat (1 - m_from S))), some (.int (m_board T S)), some (.int 0), o17]) rfl rfl ?_
          refine Pv.lp (ι := Nat × FW × (Option Value)) (lof := fun ⟨k, GD, o25⟩ => [some (.ref 69), some (.int (Int32.ofNat (1 - m_from S))), some (.int (m_board T S)), some (.int (Int32.ofNat k)), o25]) (Ff := fun ⟨k, GD, o25⟩ => GD) (P := fun ⟨k, GD, o25⟩ => (k ≤ t_m T) ∧ (RX F GD) ∧ (GD.1 71 120 = Int32.ofNat (h_d S)) ∧ (GD.1 71 121 = (if m_pg T S (t_g T) = 0 then h_i S + 1 else h_i S)) ∧ (GD.1 71 122 = h_r S + m_pg T S (t_g T)) ∧ (GD.1 71 123 = m_sum (m_eU T (m_carry T S) (2 * t_g T)) 12) ∧ (GD.1 71 180 = F.1 71 180) ∧ (GD.1 69 22 = t_l T - m_pg T S (t_g T)) ∧ (AX GD 124 12 (m_eS T (m_carry T S) (2 * t_g T))) ∧ (AX GD 136 12 (h_h S)) ∧ (AX GD 148 12 (m_eU T (m_carry T S) (2 * t_g T))) ∧ (AX GD 160 12 (m_cC T S (t_g T))) ∧ (AX GD 181 (t_m T) (m_cT T S (t_m T))) ∧ (∀ j, j < t_m T → m_alive S j = true → GD.1 71 (172 + j) = m_cA T S (t_m T) j) ∧ (∀ a b, a < t_m T → b < t_m T → a ≠ b → m_alive S a = true → m_alive S b = true → GD.1 71 (189 + 8 * a + b) = if a < k then (if h_a (m_carry T S) a = h_a (m_carry T S) b then 0 else m_apart S a b + 1) else m_apart S a b)) ?_ (0, GC, o17) (⟨Nat.zero_le _, hxGC, hC0, hC1, hC2, hC3, hCd, hCr, hC_s, hC_h, hC_u, hC_c, hC_t, hCt, fun a b ha hb hn l1 l2 => (hCp a b ha hb hn l1 l2).trans (if_neg (by omega)).symm⟩)
          rintro N26 hN27 ⟨k, GD, o25⟩ hi28 ih29
          refine (show Pv _ _ 240 [some (.ref 69), some (.int (Int32.ofNat (1 - m_from S))), some (.int (m_board T S)), some (.int (Int32.ofNat k)), o25] [] GD Q from ?_)
          obtain ⟨hk, hxGD, hD0, hD1, hD2, hD3, hDd, hDr, hD_s, hD_h, hD_u, hD_c, hD_t, hDt, hDp⟩ := hi28
          have hx30 := hxGD.T hT
          have hx31 := hxGD.G hG
          refine Pv.iloadS rfl rfl ?_
          refine Pv.aload rfl rfl ?_
          refine Pv.getR (v := .ref 71) rfl rfl (GW.at (a := 69) (k := 6) (b := 71) hx31 (by decide)) ?_
          refine Pv.lit rfl ?_
          refine Pv.ald (z := Int32.ofNat (t_m T)) rfl (hx30.m) ?_
          refine Pv.icmp rfl (fun c32 => ?_) (fun c32 => ?_)
          · skip
            replace c32 := (i_le (a := t_m T) (b := k) (by omega) (by omega)).mp (of_decide_eq_true c32)
            refine Pv.aload rfl rfl ?_
            refine Pv.getR (v := .ref 71) rfl rfl (GW.at (a := 69) (k := 6) (b := 71) hx31 (by decide)) ?_
            refine Pv.lit rfl ?_
            refine Pv.dup2 rfl ?_
            refine Pv.ald (z := Int32.ofNat (h_d S)) rfl (hD0) ?_
            refine Pv.lit rfl ?_
            refine Pv.bin (z := Int32.ofNat ((h_d S) + 1)) rfl (i_add (h_d S) 1) ?_
            refine Pv.astk (k := 120) (z := Int32.ofNat ((h_d S) + 1)) rfl (rfl) (rfl) ?_
            exact Pv.vret rfl (by rw [hQ]; exact ⟨rfl, (hxGD).s (by omega) (by omega), (show h_d S + 1 ≤ 400 by omega), fp_eq, (fp_ne (Or.inr (by decide))).trans (hD1), (fp_ne (Or.inr (by decide))).trans (hD2), (fp_ne (Or.inr (by decide))).trans (hD3), (hD_s).ne (by omega), (hD_h).ne (by omega), (hD_u).ne (by omega), (hD_c).ne (by omega), fun j hj => by rw [show ((fp GD 71 120 (Int32.ofNat ((h_d S) + 1)))).1 71 180 = F.1 71 180 from (fp_ne (Or.inr (by decide))).trans (hDd), hS.de hj]; exact congrArg not (alive_carry (T := T) b3).symm, fun j hj l => (fp_ne (Or.inr (by omega))).trans (hDt j hj (by rw [← alive_carry (T := T) b3]; exact l)), (hD_t).ne (by omega), fun a b ha hb hn l1 l2 => (fp_ne (Or.inr (by omega))).trans ((hDp a b ha hb hn (by rw [← alive_carry (T := T) b3]; exact l1) (by rw [← alive_carry (T := T) b3]; exact l2)).trans ((if_pos (by omega)).trans (m_apart_count (T := T) (S := m_eat T (m_carry T S)) ha hb b3 hn).symm))⟩)
          · skip
            replace c32 := mt (i_le (a := t_m T) (b := k) (by omega) (by omega)).mpr (of_decide_eq_false c32)
            refine Pv.lit rfl ?_
            refine Pv.istore (lo' := [some (.ref 69), some (.int (Int32.ofNat (1 - m_from S))), some (.int (m_board T S)), some (.int (Int32.ofNat k)), some (.int 0)]) rfl rfl ?_
            refine Pv.lp (ι := Nat × FW) (lof := fun ⟨o, GI⟩ => [some (.ref 69), some (.int (Int32.ofNat (1 - m_from S))), some (.int (m_board T S)), some (.int (Int32.ofNat k)), some (.int (Int32.ofNat o))]) (Ff := fun ⟨o, GI⟩ => GI) (P := fun ⟨o, GI⟩ => (o ≤ t_m T) ∧ (RX F GI) ∧ (GI.1 71 120 = Int32.ofNat (h_d S)) ∧ (GI.1 71 121 = (if m_pg T S (t_g T) = 0 then h_i S + 1 else h_i S)) ∧ (GI.1 71 122 = h_r S + m_pg T S (t_g T)) ∧ (GI.1 71 123 = m_sum (m_eU T (m_carry T S) (2 * t_g T)) 12) ∧ (GI.1 71 180 = F.1 71 180) ∧ (GI.1 69 22 = t_l T - m_pg T S (t_g T)) ∧ (AX GI 124 12 (m_eS T (m_carry T S) (2 * t_g T))) ∧ (AX GI 136 12 (h_h S)) ∧ (AX GI 148 12 (m_eU T (m_carry T S) (2 * t_g T))) ∧ (AX GI 160 12 (m_cC T S (t_g T))) ∧ (AX GI 181 (t_m T) (m_cT T S (t_m T))) ∧ (∀ j, j < t_m T → m_alive S j = true → GI.1 71 (172 + j) = m_cA T S (t_m T) j) ∧ (∀ a b, a < t_m T → b < t_m T → a ≠ b → m_alive S a = true → m_alive S b = true → GI.1 71 (189 + 8 * a + b) = if a < k ∨ (a = k ∧ b < o) then (if h_a (m_carry T S) a = h_a (m_carry T S) b then 0 else m_apart S a b + 1) else m_apart S a b)) ?_ (0, GD) (⟨Nat.zero_le _, hxGD, hD0, hD1, hD2, hD3, hDd, hDr, hD_s, hD_h, hD_u, hD_c, hD_t, hDt, fun a b ha hb hn l1 l2 => (hDp a b ha hb hn l1 l2).trans (ifq (by omega))⟩)
            rintro N33 hN34 ⟨o, GI⟩ hi35 ih36
            refine (show Pv _ _ 253 [some (.ref 69), some (.int (Int32.ofNat (1 - m_from S))), some (.int (m_board T S)), some (.int (Int32.ofNat k)), some (.int (Int32.ofNat o))] [] GI Q from ?_)
            obtain ⟨ho, hxGI, hI0, hI1, hI2, hI3, hId, hIr, hI_s, hI_h, hI_u, hI_c, hI_t, hIt, hIp⟩ := hi35
            have hXDGI : XD GI (t_m T) (m_carry T S) := ⟨fun j hj => by rw [hId, hS.de hj, alive_carry b3], fun j hj l => hIt j hj (by rw [← alive_carry (T := T) b3]; exact l)⟩
            have hx37 := hxGI.T hT
            have hx38 := hxGI.G hG
            refine Pv.iloadS rfl rfl ?_
            refine Pv.aload rfl rfl ?_
            refine Pv.getR (v := .ref 71) rfl rfl (GW.at (a := 69) (k := 6) (b := 71) hx38 (by decide)) ?_
            refine Pv.lit rfl ?_
            refine Pv.ald (z := Int32.ofNat (t_m T)) rfl (hx37.m) ?_
            refine Pv.icmp rfl (fun c39 => ?_) (fun c39 => ?_)
            · skip
              replace c39 := (i_le (a := t_m T) (b := o) (by omega) (by omega)).mp (of_decide_eq_true c39)
              refine Pv.iinc (y := Int32.ofNat (k + 1)) (lo' := [some (.ref 69), some (.int (Int32.ofNat (1 - m_from S))), some (.int (m_board T S)), some (.int (Int32.ofNat (k + 1))), some (.int (Int32.ofNat o))]) rfl rfl (i_add k 1) rfl ?_
              refine Pv.goto rfl ?_
              exact (ih29 (k + 1, GI, (some (.int (Int32.ofNat o)))) (⟨by omega, hxGI, hI0, hI1, hI2, hI3, hId, hIr, hI_s, hI_h, hI_u, hI_c, hI_t, fun j hj l => hIt j hj l, fun a b ha hb hn l1 l2 => (hIp a b ha hb hn l1 l2).trans (ifq (by omega))⟩)).mono (by omega)
            · skip
              replace c39 := mt (i_le (a := t_m T) (b := o) (by omega) (by omega)).mpr (of_decide_eq_false c39)
              refine Pv.aload rfl rfl ?_
              refine Pv.getR (v := .ref 71) rfl rfl (GW.at (a := 69) (k := 6) (b := 71) hx38 (by decide)) ?_
              refine Pv.lit rfl ?_
              refine Pv.lit rfl ?_
              refine Pv.iload rfl rfl ?_
              refine Pv.bin (z := Int32.ofNat (8 * k)) rfl (i_mul 8 k) ?_
              refine Pv.bin (z := Int32.ofNat (189 + (8 * k))) rfl (i_add 189 (8 * k)) ?_
              refine Pv.iload rfl rfl ?_
              refine Pv.bin (z := Int32.ofNat ((189 + (8 * k)) + o)) rfl (i_add (189 + (8 * k)) o) ?_
              refine Pv.aload rfl rfl ?_
              refine Pv.iload rfl rfl ?_
              refine Pv.iload rfl rfl ?_
              refine Pv.callVI (as := [.ref 69, .int (Int32.ofNat k), .int (Int32.ofNat o)]) (rest := [.int (Int32.ofNat ((189 + (8 * k)) + o)), .ref 71]) (z := b2i (m_unl (m_carry T S) k o)) rfl rfl rfl (g_areUnlike (m := k) (o := o) hXDGI hx38 (by omega) (by omega) (by omega)) ?_
              refine Pv.if0 rfl (fun c40 => ?_) (fun c40 => ?_)
              · skip
                replace c40 := of_decide_eq_true c40
                replace c40 := b2z.mp c40
                refine Pv.lit rfl ?_
                refine Pv.astk (k := (189 + (8 * k)) + o) (z := 0) rfl (i_toNat (by omega)) (rfl) ?_
                refine Pv.iinc (y := Int32.ofNat (o + 1)) (lo' := [some (.ref 69), some (.int (Int32.ofNat (1 - m_from S))), some (.int (m_board T S)), some (.int (Int32.ofNat k)), some (.int (Int32.ofNat (o + 1)))]) rfl rfl (i_add o 1) rfl ?_
                refine Pv.goto rfl ?_
                exact ih36 (o + 1, (fp GI 71 ((189 + (8 * k)) + o) 0)) (⟨by omega, (hxGI).s (by omega) (by omega), (fp_ne (Or.inr (by omega))).trans (hI0), (fp_ne (Or.inr (by omega))).trans (hI1), (fp_ne (Or.inr (by omega))).trans (hI2), (fp_ne (Or.inr (by omega))).trans (hI3), (fp_ne (Or.inr (by omega))).trans (hId), (fp_ne (Or.inl (by decide))).trans (hIr), (hI_s).ne (by omega), (hI_h).ne (by omega), (hI_u).ne (by omega), (hI_c).ne (by omega), (hI_t).ne (by omega), fun j hj l => (fp_ne (Or.inr (by omega))).trans (hIt j hj l), fun a b ha hb hn l1 l2 => Or.elim (Classical.em (a = k ∧ b = o)) (fun e => by rw [e.1] at l1; rw [e.2] at l2; rw [e.1, e.2, if_pos (Or.inr ⟨rfl, by omega⟩)]; exact fp_eq.trans (if_pos (Classical.byContradiction fun z => absurd (show m_unl (m_carry T S) k o = true by unfold m_unl; rw [alive_carry b3, alive_carry b3, l1, l2, decide_eq_false z]; rfl) (by rw [c40]; decide))).symm) (fun e => (fp_ne (Or.inr (by omega))).trans ((hIp a b ha hb hn l1 l2).trans (ifq (by omega))))⟩)
              · skip
                replace c40 := of_decide_eq_false c40
                replace c40 := b2n.mp c40
                have u2 : m_alive (m_carry T S) k = true ∧ m_alive (m_carry T S) o = true ∧ ¬ h_a (m_carry T S) k = h_a (m_carry T S) o := by simpa [m_unl, and_assoc] using c40
                obtain ⟨a1, a2, a3⟩ := u2
                rw [alive_carry b3] at a1 a2
                have hne : k ≠ o := fun e => a3 (by rw [e])
                refine Pv.aload rfl rfl ?_
                refine Pv.getR (v := .ref 71) rfl rfl (GW.at (a := 69) (k := 6) (b := 71) hx38 (by decide)) ?_
                refine Pv.lit rfl ?_
                refine Pv.lit rfl ?_
                refine Pv.iload rfl rfl ?_
                refine Pv.bin (z := Int32.ofNat (8 * k)) rfl (i_mul 8 k) ?_
                refine Pv.bin (z := Int32.ofNat (189 + (8 * k))) rfl (i_add 189 (8 * k)) ?_
                refine Pv.iload rfl rfl ?_
                refine Pv.bin (z := Int32.ofNat ((189 + (8 * k)) + o)) rfl (i_add (189 + (8 * k)) o) ?_
                refine Pv.ald (z := m_apart S k o) rfl (by rw [i_toNat (by omega)]; exact (hIp k o (by omega) (by omega) hne a1 a2).trans (if_neg (by omega))) ?_
                refine Pv.lit rfl ?_
                refine Pv.bin (z := (m_apart S k o) + 1) rfl (rfl) ?_
                refine Pv.goto rfl ?_
                refine Pv.astk (k := (189 + (8 * k)) + o) (z := (m_apart S k o) + 1) rfl (i_toNat (by omega)) (rfl) ?_
                refine Pv.iinc (y := Int32.ofNat (o + 1)) (lo' := [some (.ref 69), some (.int (Int32.ofNat (1 - m_from S))), some (.int (m_board T S)), some (.int (Int32.ofNat k)), some (.int (Int32.ofNat (o + 1)))]) rfl rfl (i_add o 1) rfl ?_
                refine Pv.goto rfl ?_
                exact ih36 (o + 1, (fp GI 71 ((189 + (8 * k)) + o) ((m_apart S k o) + 1))) (⟨by omega, (hxGI).s (by omega) (by omega), (fp_ne (Or.inr (by omega))).trans (hI0), (fp_ne (Or.inr (by omega))).trans (hI1), (fp_ne (Or.inr (by omega))).trans (hI2), (fp_ne (Or.inr (by omega))).trans (hI3), (fp_ne (Or.inr (by omega))).trans (hId), (fp_ne (Or.inl (by decide))).trans (hIr), (hI_s).ne (by omega), (hI_h).ne (by omega), (hI_u).ne (by omega), (hI_c).ne (by omega), (hI_t).ne (by omega), fun j hj l => (fp_ne (Or.inr (by omega))).trans (hIt j hj l), fun a b ha hb hn l1 l2 => Or.elim (Classical.em (a = k ∧ b = o)) (fun e => by rw [e.1] at l1; rw [e.2] at l2; rw [e.1, e.2, if_pos (Or.inr ⟨rfl, by omega⟩)]; exact fp_eq.trans (if_neg a3).symm) (fun e => (fp_ne (Or.inr (by omega))).trans ((hIp a b ha hb hn l1 l2).trans (ifq (by omega))))⟩)
        · skip
          replace c24 := mt (i_le (a := 2 * (t_g T)) (b := k) (by omega) (by omega)).mpr (of_decide_eq_false c24)
          have hE := eS_b hTB (SB_carry hTB hSB b5) (k := k) (j := k) (by omega)
          have e0 := hE.1
          have e1 := hE.2
          refine Pv.aload rfl rfl ?_
          refine Pv.iload rfl rfl ?_
          refine Pv.callV (as := [.ref 69, .int (Int32.ofNat k)]) (rest := []) (Q' := (fun r F' => Pv (ab_T (L_X11_day Z_X11_goingSet Z_X11_bitOf Z_X11_goesOf Z_X11_cell Z_X11_eats Z_X11_areUnlike)) N18 232 [some (.ref 69), some (.int (Int32.ofNat (1 - m_from S))), some (.int (m_board T S)), some (.int (Int32.ofNat k)), o17] (r.toList ++ []) F' Q)) rfl rfl rfl ?_ (fun r F' h => h)
          refine Pm.of fun N42 => ?_
          obtain ⟨Q41, hQ41⟩ : ∃ Qx : Option Value → FW → Prop, Qx = (fun r F' => Pv (ab_T (L_X11_day Z_X11_goingSet Z_X11_bitOf Z_X11_goesOf Z_X11_cell Z_X11_eats Z_X11_areUnlike)) N18 232 [some (.ref 69), some (.int (Int32.ofNat (1 - m_from S))), some (.int (m_board T S)), some (.int (Int32.ofNat k)), o17] (r.toList ++ []) F' Q) := ⟨_, rfl⟩
          rw [← hQ41]
          refine (show Pv (ab_T (L_X11_eats Z_X11_lesser)) N42 0 [some (.ref 69), some (.int (Int32.ofNat k)), none] [] GC Q41 from ?_)
          refine Pv.aload rfl rfl ?_
          refine Pv.getR (v := .ref 71) rfl rfl (GW.at (a := 69) (k := 6) (b := 71) hx23 (by decide)) ?_
          refine Pv.lit rfl ?_
          refine Pv.iload rfl rfl ?_
          refine Pv.bin (z := Int32.ofNat (124 + k)) rfl (i_add 124 k) ?_
          refine Pv.lit rfl ?_
          refine Pv.aload rfl rfl ?_
          refine Pv.getR (v := .ref 71) rfl rfl (GW.at (a := 69) (k := 6) (b := 71) hx23 (by decide)) ?_
          refine Pv.lit rfl ?_
          refine Pv.iload rfl rfl ?_
          refine Pv.bin (z := Int32.ofNat (124 + k)) rfl (i_add 124 k) ?_
          refine Pv.ald (z := (m_eS T (m_carry T S) k) k) rfl (by rw [i_toNat (by omega)]; exact hC_s _ (by omega)) ?_
          refine Pv.aload rfl rfl ?_
          refine Pv.getR (v := .ref 71) rfl rfl (GW.at (a := 69) (k := 6) (b := 71) hx23 (by decide)) ?_
          refine Pv.lit rfl ?_
          refine Pv.iload rfl rfl ?_
          refine Pv.bin (z := Int32.ofNat (40 + k)) rfl (i_add 40 k) ?_
          refine Pv.ald (z := t_a T (36 + k)) rfl (by rw [i_toNat (by omega)]; exact hx22.k _ (by omega)) ?_
          refine Pv.bin (z := ((m_eS T (m_carry T S) k) k) + (t_a T (36 + k))) rfl (rfl) ?_
          refine Pv.callI (as := [.int 999, .int (((m_eS T (m_carry T S) k) k) + (t_a T (36 + k)))]) (rest := [.int (Int32.ofNat (124 + k)), .ref 71]) (z := m_less 999 (((m_eS T (m_carry T S) k) k) + (t_a T (36 + k)))) rfl rfl rfl (g_lesser (x := 999) (y := ((m_eS T (m_carry T S) k) k) + (t_a T (36 + k)))) ?_
          refine Pv.astk (k := 124 + k) (z := m_less 999 (((m_eS T (m_carry T S) k) k) + (t_a T (36 + k)))) rfl (i_toNat (by omega)) (rfl) ?_
          refine Pv.aload rfl rfl ?_
          refine Pv.getR (v := .ref 71) rfl rfl (GW.at (a := 69) (k := 6) (b := 71) hx23 (by decide)) ?_
          refine Pv.lit rfl ?_
          refine Pv.iload rfl rfl ?_
          refine Pv.bin (z := Int32.ofNat (28 + k)) rfl (i_add 28 k) ?_
          refine Pv.ald (z := t_a T (24 + k)) rfl (by rw [i_toNat (by omega)]; exact (fp_ne (Or.inr (by omega))).trans (hx22.e _ (by omega))) ?_
          refine Pv.aload rfl rfl ?_
          refine Pv.getR (v := .ref 71) rfl rfl (GW.at (a := 69) (k := 6) (b := 71) hx23 (by decide)) ?_
          refine Pv.lit rfl ?_
          refine Pv.iload rfl rfl ?_
          refine Pv.bin (z := Int32.ofNat (124 + k)) rfl (i_add 124 k) ?_
          refine Pv.ald (z := m_less 999 (((m_eS T (m_carry T S) k) k) + (t_a T (36 + k)))) rfl (by rw [i_toNat (by omega)]; exact fp_eq) ?_
          refine Pv.bin (z := (t_a T (24 + k)) - (m_less 999 (((m_eS T (m_carry T S) k) k) + (t_a T (36 + k))))) rfl (rfl) ?_
          refine Pv.istore (lo' := [some (.ref 69), some (.int (Int32.ofNat k)), some (.int ((t_a T (24 + k)) - (m_less 999 (((m_eS T (m_carry T S) k) k) + (t_a T (36 + k))))))]) rfl rfl ?_
          refine Pv.iload rfl rfl ?_
          refine Pv.if0 rfl (fun c43 => ?_) (fun c43 => ?_)
          · skip
            replace c43 := of_decide_eq_true c43
            refine Pv.aload rfl rfl ?_
            refine Pv.getR (v := .ref 71) rfl rfl (GW.at (a := 69) (k := 6) (b := 71) hx23 (by decide)) ?_
            refine Pv.lit rfl ?_
            refine Pv.iload rfl rfl ?_
            refine Pv.bin (z := Int32.ofNat (124 + k)) rfl (i_add 124 k) ?_
            refine Pv.dup2 rfl ?_
            refine Pv.ald (z := m_less 999 (((m_eS T (m_carry T S) k) k) + (t_a T (36 + k)))) rfl (by rw [i_toNat (by omega)]; exact fp_eq) ?_
            refine Pv.aload rfl rfl ?_
            refine Pv.getR (v := .ref 71) rfl rfl (GW.at (a := 69) (k := 6) (b := 71) hx23 (by decide)) ?_
            refine Pv.lit rfl ?_
            refine Pv.iload rfl rfl ?_
            refine Pv.bin (z := Int32.ofNat (28 + k)) rfl (i_add 28 k) ?_
            refine Pv.ald (z := t_a T (24 + k)) rfl (by rw [i_toNat (by omega)]; exact (fp_ne (Or.inr (by omega))).trans (hx22.e _ (by omega))) ?_
            refine Pv.bin (z := (m_less 999 (((m_eS T (m_carry T S) k) k) + (t_a T (36 + k)))) - (t_a T (24 + k))) rfl (rfl) ?_
            refine Pv.astk (k := 124 + k) (z := (m_less 999 (((m_eS T (m_carry T S) k) k) + (t_a T (36 + k)))) - (t_a T (24 + k))) rfl (i_toNat (by omega)) (rfl) ?_
            refine Pv.vret rfl ?_
            rw [hQ41]
            refine (show Pv (ab_T (L_X11_day Z_X11_goingSet Z_X11_bitOf Z_X11_goesOf Z_X11_cell Z_X11_eats Z_X11_areUnlike)) N18 232 [some (.ref 69), some (.int (Int32.ofNat (1 - m_from S))), some (.int (m_board T S)), some (.int (Int32.ofNat k)), o17] [] (fp (fp GC 71 (124 + k) (m_less 999 (((m_eS T (m_carry T S) k) k) + (t_a T (36 + k))))) 71 (124 + k) ((m_less 999 (((m_eS T (m_carry T S) k) k) + (t_a T (36 + k)))) - (t_a T (24 + k)))) Q from ?_)
            refine Pv.iinc (y := Int32.ofNat (k + 1)) (lo' := [some (.ref 69), some (.int (Int32.ofNat (1 - m_from S))), some (.int (m_board T S)), some (.int (Int32.ofNat (k + 1))), o17]) rfl rfl (i_add k 1) rfl ?_
            refine Pv.goto rfl ?_
            exact ih21 (k + 1, (fp (fp GC 71 (124 + k) (m_less 999 (((m_eS T (m_carry T S) k) k) + (t_a T (36 + k))))) 71 (124 + k) ((m_less 999 (((m_eS T (m_carry T S) k) k) + (t_a T (36 + k)))) - (t_a T (24 + k)))), o17) (⟨by omega, ((hxGC).s (by omega) (by omega)).s (by omega) (by omega), (fp_ne (Or.inr (by omega))).trans ((fp_ne (Or.inr (by omega))).trans (hC0)), (fp_ne (Or.inr (by omega))).trans ((fp_ne (Or.inr (by omega))).trans (hC1)), (fp_ne (Or.inr (by omega))).trans ((fp_ne (Or.inr (by omega))).trans (hC2)), ((fp_ne (Or.inr (by omega))).trans ((fp_ne (Or.inr (by omega))).trans (hC3))).trans (congrArg (fun u => m_sum u 12) (if_neg (eat_no hTB (by omega) e0 e1 c43).1).symm), (fp_ne (Or.inr (by omega))).trans ((fp_ne (Or.inr (by omega))).trans (hCd)), (fp_ne (Or.inl (by decide))).trans ((fp_ne (Or.inl (by decide))).trans (hCr)), (((hC_s).up).up).eq (by rw [up1_up1, (eat_no hTB (by omega) e0 e1 c43).2]; rfl), ((hC_h).ne (by omega)).ne (by omega), (((hC_u).ne (by omega)).ne (by omega)).eq ((if_neg (eat_no hTB (by omega) e0 e1 c43).1).symm), ((hC_c).ne (by omega)).ne (by omega), ((hC_t).ne (by omega)).ne (by omega), fun j hj l => (fp_ne (Or.inr (by omega))).trans ((fp_ne (Or.inr (by omega))).trans (hCt j hj l)), fun a b ha hb hn l1 l2 => (fp_ne (Or.inr (by omega))).trans ((fp_ne (Or.inr (by omega))).trans (hCp a b ha hb hn l1 l2))⟩)
          · skip
            replace c43 := of_decide_eq_false c43
            refine Pv.aload rfl rfl ?_
            refine Pv.getR (v := .ref 71) rfl rfl (GW.at (a := 69) (k := 6) (b := 71) hx23 (by decide)) ?_
            refine Pv.lit rfl ?_
            refine Pv.iload rfl rfl ?_
            refine Pv.bin (z := Int32.ofNat (148 + k)) rfl (i_add 148 k) ?_
            refine Pv.dup2 rfl ?_
            refine Pv.ald (z := (m_eU T (m_carry T S) k) k) rfl (by rw [i_toNat (by omega)]; exact (fp_ne (Or.inr (by omega))).trans (hC_u _ (by omega))) ?_
            refine Pv.iload rfl rfl ?_
            refine Pv.bin (z := ((m_eU T (m_carry T S) k) k) + ((t_a T (24 + k)) - (m_less 999 (((m_eS T (m_carry T S) k) k) + (t_a T (36 + k)))))) rfl (rfl) ?_
            refine Pv.astk (k := 148 + k) (z := ((m_eU T (m_carry T S) k) k) + ((t_a T (24 + k)) - (m_less 999 (((m_eS T (m_carry T S) k) k) + (t_a T (36 + k)))))) rfl (i_toNat (by omega)) (rfl) ?_
            refine Pv.aload rfl rfl ?_
            refine Pv.getR (v := .ref 71) rfl rfl (GW.at (a := 69) (k := 6) (b := 71) hx23 (by decide)) ?_
            refine Pv.lit rfl ?_
            refine Pv.dup2 rfl ?_
            refine Pv.ald (z := m_sum (m_eU T (m_carry T S) k) 12) rfl (show (fp (fp GC 71 (124 + k) (m_less 999 (((m_eS T (m_carry T S) k) k) + (t_a T (36 + k))))) 71 (148 + k) (((m_eU T (m_carry T S) k) k) + ((t_a T (24 + k)) - (m_less 999 (((m_eS T (m_carry T S) k) k) + (t_a T (36 + k))))))).1 71 123 = m_sum (m_eU T (m_carry T S) k) 12 from (fp_ne (Or.inr (by omega))).trans ((fp_ne (Or.inr (by omega))).trans (hC3))) ?_
            refine Pv.iload rfl rfl ?_
            refine Pv.bin (z := (m_sum (m_eU T (m_carry T S) k) 12) + ((t_a T (24 + k)) - (m_less 999 (((m_eS T (m_carry T S) k) k) + (t_a T (36 + k)))))) rfl (rfl) ?_
            refine Pv.astk (k := 123) (z := (m_sum (m_eU T (m_carry T S) k) 12) + ((t_a T (24 + k)) - (m_less 999 (((m_eS T (m_carry T S) k) k) + (t_a T (36 + k)))))) rfl (rfl) (rfl) ?_
            refine Pv.aload rfl rfl ?_
            refine Pv.getR (v := .ref 71) rfl rfl (GW.at (a := 69) (k := 6) (b := 71) hx23 (by decide)) ?_
            refine Pv.lit rfl ?_
            refine Pv.iload rfl rfl ?_
            refine Pv.bin (z := Int32.ofNat (124 + k)) rfl (i_add 124 k) ?_
            refine Pv.lit rfl ?_
            refine Pv.astk (k := 124 + k) (z := 0) rfl (i_toNat (by omega)) (rfl) ?_
            refine Pv.goto rfl ?_
            refine Pv.vret rfl ?_
            rw [hQ41]
            refine (show Pv (ab_T (L_X11_day Z_X11_goingSet Z_X11_bitOf Z_X11_goesOf Z_X11_cell Z_X11_eats Z_X11_areUnlike)) N18 232 [some (.ref 69), some (.int (Int32.ofNat (1 - m_from S))), some (.int (m_board T S)), some (.int (Int32.ofNat k)), o17] [] (fp (fp (fp (fp GC 71 (124 + k) (m_less 999 (((m_eS T (m_carry T S) k) k) + (t_a T (36 + k))))) 71 (148 + k) (((m_eU T (m_carry T S) k) k) + ((t_a T (24 + k)) - (m_less 999 (((m_eS T (m_carry T S) k) k) + (t_a T (36 + k))))))) 71 123 ((m_sum (m_eU T (m_carry T S) k) 12) + ((t_a T (24 + k)) - (m_less 999 (((m_eS T (m_carry T S) k) k) + (t_a T (36 + k))))))) 71 (124 + k) 0) Q from ?_)
            refine Pv.iinc (y := Int32.ofNat (k + 1)) (lo' := [some (.ref 69), some (.int (Int32.ofNat (1 - m_from S))), some (.int (m_board T S)), some (.int (Int32.ofNat (k + 1))), o17]) rfl rfl (i_add k 1) rfl ?_
            refine Pv.goto rfl ?_
            exact ih21 (k + 1, (fp (fp (fp (fp GC 71 (124 + k) (m_less 999 (((m_eS T (m_carry T S) k) k) + (t_a T (36 + k))))) 71 (148 + k) (((m_eU T (m_carry T S) k) k) + ((t_a T (24 + k)) - (m_less 999 (((m_eS T (m_carry T S) k) k) + (t_a T (36 + k))))))) 71 123 ((m_sum (m_eU T (m_carry T S) k) 12) + ((t_a T (24 + k)) - (m_less 999 (((m_eS T (m_carry T S) k) k) + (t_a T (36 + k))))))) 71 (124 + k) 0), o17) (⟨by omega, ((((hxGC).s (by omega) (by omega)).s (by omega) (by omega)).s (by omega) (by omega)).s (by omega) (by omega), (fp_ne (Or.inr (by omega))).trans ((fp_ne (Or.inr (by decide))).trans ((fp_ne (Or.inr (by omega))).trans ((fp_ne (Or.inr (by omega))).trans (hC0)))), (fp_ne (Or.inr (by omega))).trans ((fp_ne (Or.inr (by decide))).trans ((fp_ne (Or.inr (by omega))).trans ((fp_ne (Or.inr (by omega))).trans (hC1)))), (fp_ne (Or.inr (by omega))).trans ((fp_ne (Or.inr (by decide))).trans ((fp_ne (Or.inr (by omega))).trans ((fp_ne (Or.inr (by omega))).trans (hC2)))), ((fp_ne (Or.inr (by omega))).trans (fp_eq)).trans (((eat_yes hTB (by omega) e0 e1 c43).2.2).trans ((sum_up (by omega)).symm.trans (congrArg (fun u => m_sum u 12) (if_pos (eat_yes (u := 0) hTB (by omega) e0 e1 c43).1).symm))), (fp_ne (Or.inr (by omega))).trans ((fp_ne (Or.inr (by decide))).trans ((fp_ne (Or.inr (by omega))).trans ((fp_ne (Or.inr (by omega))).trans (hCd)))), (fp_ne (Or.inl (by decide))).trans ((fp_ne (Or.inl (by decide))).trans ((fp_ne (Or.inl (by decide))).trans ((fp_ne (Or.inl (by decide))).trans (hCr)))), (((((hC_s).up).ne (by omega)).ne (by omega)).up).eq (by rw [up1_up1, ← (eat_yes (u := 0) hTB (by omega) e0 e1 c43).2.1]; rfl), ((((hC_h).ne (by omega)).ne (by omega)).ne (by omega)).ne (by omega), (((((hC_u).ne (by omega)).up).ne (by omega)).ne (by omega)).eq ((congrArg (up1 _ k) (eat_yes hTB (by omega) e0 e1 c43).2.2).trans (if_pos (eat_yes (u := 0) hTB (by omega) e0 e1 c43).1).symm), ((((hC_c).ne (by omega)).ne (by omega)).ne (by omega)).ne (by omega), ((((hC_t).ne (by omega)).ne (by omega)).ne (by omega)).ne (by omega), fun j hj l => (fp_ne (Or.inr (by omega))).trans ((fp_ne (Or.inr (by omega))).trans ((fp_ne (Or.inr (by omega))).trans ((fp_ne (Or.inr (by omega))).trans (hCt j hj l)))), fun a b ha hb hn l1 l2 => (fp_ne (Or.inr (by omega))).trans ((fp_ne (Or.inr (by omega))).trans ((fp_ne (Or.inr (by omega))).trans ((fp_ne (Or.inr (by omega))).trans (hCp a b ha hb hn l1 l2))))⟩)
      refine Pv.aload rfl rfl ?_
      refine Pv.getR (v := .ref 71) rfl rfl (GW.at (a := 69) (k := 6) (b := 71) hx14 (by decide)) ?_
      refine Pv.lit rfl ?_
      refine Pv.dup2 rfl ?_
      refine Pv.ald (z := h_i S) rfl ((fp_ne (Or.inr (by decide))).trans (hB1)) ?_
      refine Pv.aload rfl rfl ?_
      refine Pv.getI (z := t_l T - m_pg T S (t_g T)) rfl rfl ((fp_ne (Or.inl (by decide))).trans (hBr)) ?_
      refine Pv.aload rfl rfl ?_
      refine Pv.getR (v := .ref 71) rfl rfl (GW.at (a := 69) (k := 6) (b := 71) hx14 (by decide)) ?_
      refine Pv.lit rfl ?_
      refine Pv.ald (z := t_l T) rfl ((fp_ne (Or.inr (by decide))).trans (hx13.l)) ?_
      refine Pv.icmp rfl (fun c44 => ?_) (fun c44 => ?_)
      · skip
        replace c44 : decide (t_l T - m_pg T S (t_g T) = t_l T) = false := by simpa using c44
        replace c44 := of_decide_eq_false c44
        refine Pv.lit rfl ?_
        refine Pv.bin (z := (if m_pg T S (t_g T) = 0 then h_i S + 1 else h_i S)) rfl ((Int32.add_zero _).trans (if_neg (fun e => c44 (i_sub0.mpr e))).symm) ?_
        refine Pv.astk (k := 121) (z := (if m_pg T S (t_g T) = 0 then h_i S + 1 else h_i S)) rfl (rfl) (rfl) ?_
        exact cut16
      · skip
        replace c44 : decide (t_l T - m_pg T S (t_g T) = t_l T) = true := by simpa using c44
        replace c44 := of_decide_eq_true c44
        refine Pv.lit rfl ?_
        refine Pv.goto rfl ?_
        refine Pv.bin (z := (if m_pg T S (t_g T) = 0 then h_i S + 1 else h_i S)) rfl ((if_pos (i_sub0.mp c44)).symm) ?_
        refine Pv.astk (k := 121) (z := (if m_pg T S (t_g T) = 0 then h_i S + 1 else h_i S)) rfl (rfl) (rfl) ?_
        exact cut16
    · skip
      replace c15 := mt (i_le (a := t_g T) (b := g) (by omega) (by omega)).mpr (of_decide_eq_false c15)
      refine Pv.aload rfl rfl ?_
      refine Pv.iload rfl rfl ?_
      refine Pv.callVI (as := [.ref 69, .int (Int32.ofNat g)]) (rest := []) (z := m_less (t_l T - m_pg T S g) (m_less ((m_cS T S g) (2 * g + m_from S)) (m_lackr (t_a T (1 * 12 + (2 * g + (1 - m_from S)))) ((m_cS T S g) (2 * g + (1 - m_from S)))))) rfl rfl rfl (g_goesOf (g := g) (d := (h_d S)) (rm := t_l T - m_pg T S g) (x := (m_cS T S g) (2 * g + m_from S)) (y := (m_cS T S g) (2 * g + (1 - m_from S))) (w := t_a T (1 * 12 + (2 * g + (1 - m_from S)))) hx14 (by omega) (by omega) (hBr) (hB0) (hB_s _ (by omega)) (hB_s _ (by omega)) (hx13.wa _ (by omega))) ?_
      have en : m_less (t_l T - m_pg T S g) (m_less ((m_cS T S g) (2 * g + m_from S)) (m_lackr (t_a T (1 * 12 + (2 * g + (1 - m_from S)))) ((m_cS T S g) (2 * g + (1 - m_from S))))) = m_fr T S g := fr_eq hTB hSB hD (by omega)
      rw [en]
      refine Pv.istore (lo' := [some (.ref 69), some (.int (Int32.ofNat (1 - m_from S))), some (.int (m_board T S)), some (.int (Int32.ofNat g)), some (.int (m_fr T S g))]) rfl rfl ?_
      refine Pv.aload rfl rfl ?_
      refine Pv.getR (v := .ref 71) rfl rfl (GW.at (a := 69) (k := 6) (b := 71) hx14 (by decide)) ?_
      refine Pv.lit rfl ?_
      refine Pv.iload rfl rfl ?_
      refine Pv.lit rfl ?_
      refine Pv.iload rfl rfl ?_
      refine Pv.bin (z := Int32.ofNat (m_from S)) rfl ((i_1m (by omega)).trans (congrArg Int32.ofNat (by omega))) ?_
      refine Pv.callI (as := [.int (Int32.ofNat g), .int (Int32.ofNat (m_from S))]) (rest := [.int 124, .ref 71]) (z := Int32.ofNat (2 * g + (m_from S))) rfl rfl rfl (g_cell (g := g) (s := m_from S)) ?_
      refine Pv.bin (z := Int32.ofNat (124 + (2 * g + (m_from S)))) rfl (i_add 124 (2 * g + (m_from S))) ?_
      refine Pv.dup2 rfl ?_
      refine Pv.ald (z := (m_cS T S g) (2 * g + (m_from S))) rfl (by rw [i_toNat (by omega)]; exact hB_s _ (by omega)) ?_
      refine Pv.iload rfl rfl ?_
      refine Pv.bin (z := ((m_cS T S g) (2 * g + (m_from S))) - (m_fr T S g)) rfl (rfl) ?_
      refine Pv.astk (k := 124 + (2 * g + (m_from S))) (z := ((m_cS T S g) (2 * g + (m_from S))) - (m_fr T S g)) rfl (i_toNat (by omega)) (rfl) ?_
      refine Pv.aload rfl rfl ?_
      refine Pv.getR (v := .ref 71) rfl rfl (GW.at (a := 69) (k := 6) (b := 71) hx14 (by decide)) ?_
      refine Pv.lit rfl ?_
      refine Pv.iload rfl rfl ?_
      refine Pv.iload rfl rfl ?_
      refine Pv.callI (as := [.int (Int32.ofNat g), .int (Int32.ofNat (1 - m_from S))]) (rest := [.int 124, .ref 71]) (z := Int32.ofNat (2 * g + (1 - m_from S))) rfl rfl rfl (g_cell (g := g) (s := 1 - m_from S)) ?_
      refine Pv.bin (z := Int32.ofNat (124 + (2 * g + (1 - m_from S)))) rfl (i_add 124 (2 * g + (1 - m_from S))) ?_
      refine Pv.dup2 rfl ?_
      refine Pv.ald (z := (m_cS T S g) (2 * g + (1 - m_from S))) rfl (by rw [i_toNat (by omega)]; exact (fp_ne (Or.inr (by omega))).trans (hB_s _ (by omega))) ?_
      refine Pv.iload rfl rfl ?_
      refine Pv.bin (z := ((m_cS T S g) (2 * g + (1 - m_from S))) + (m_fr T S g)) rfl (rfl) ?_
      refine Pv.astk (k := 124 + (2 * g + (1 - m_from S))) (z := ((m_cS T S g) (2 * g + (1 - m_from S))) + (m_fr T S g)) rfl (i_toNat (by omega)) (rfl) ?_
      refine Pv.aload rfl rfl ?_
      refine Pv.getR (v := .ref 71) rfl rfl (GW.at (a := 69) (k := 6) (b := 71) hx14 (by decide)) ?_
      refine Pv.lit rfl ?_
      refine Pv.iload rfl rfl ?_
      refine Pv.iload rfl rfl ?_
      refine Pv.callI (as := [.int (Int32.ofNat g), .int (Int32.ofNat (1 - m_from S))]) (rest := [.int 160, .ref 71]) (z := Int32.ofNat (2 * g + (1 - m_from S))) rfl rfl rfl (g_cell (g := g) (s := 1 - m_from S)) ?_
      refine Pv.bin (z := Int32.ofNat (160 + (2 * g + (1 - m_from S)))) rfl (i_add 160 (2 * g + (1 - m_from S))) ?_
      refine Pv.dup2 rfl ?_
      refine Pv.ald (z := (m_cC T S g) (2 * g + (1 - m_from S))) rfl (by rw [i_toNat (by omega)]; exact (fp_ne (Or.inr (by omega))).trans ((fp_ne (Or.inr (by omega))).trans (hB_c _ (by omega)))) ?_
      refine Pv.iload rfl rfl ?_
      refine Pv.bin (z := ((m_cC T S g) (2 * g + (1 - m_from S))) + (m_fr T S g)) rfl (rfl) ?_
      refine Pv.astk (k := 160 + (2 * g + (1 - m_from S))) (z := ((m_cC T S g) (2 * g + (1 - m_from S))) + (m_fr T S g)) rfl (i_toNat (by omega)) (rfl) ?_
      refine Pv.aload rfl rfl ?_
      refine Pv.dup rfl ?_
      refine Pv.getI (z := t_l T - m_pg T S g) rfl rfl ((fp_ne (Or.inl (by decide))).trans ((fp_ne (Or.inl (by decide))).trans ((fp_ne (Or.inl (by decide))).trans (hBr)))) ?_
      refine Pv.iload rfl rfl ?_
      refine Pv.bin (z := (t_l T - m_pg T S g) - (m_fr T S g)) rfl (rfl) ?_
      refine Pv.putI rfl rfl ?_
      refine Pv.iinc (y := Int32.ofNat (g + 1)) (lo' := [some (.ref 69), some (.int (Int32.ofNat (1 - m_from S))), some (.int (m_board T S)), some (.int (Int32.ofNat (g + 1))), some (.int (m_fr T S g))]) rfl rfl (i_add g 1) rfl ?_
      refine Pv.goto rfl ?_
      exact ih12 (g + 1, (fp (fp (fp (fp GB 71 (124 + (2 * g + (m_from S))) (((m_cS T S g) (2 * g + (m_from S))) - (m_fr T S g))) 71 (124 + (2 * g + (1 - m_from S))) (((m_cS T S g) (2 * g + (1 - m_from S))) + (m_fr T S g))) 71 (160 + (2 * g + (1 - m_from S))) (((m_cC T S g) (2 * g + (1 - m_from S))) + (m_fr T S g))) 69 22 ((t_l T - m_pg T S g) - (m_fr T S g))), (some (.int (m_fr T S g)))) (⟨by omega, ((((hxGB).s (by omega) (by omega)).s (by omega) (by omega)).s (by omega) (by omega)).r, (fp_ne (Or.inl (by decide))).trans ((fp_ne (Or.inr (by omega))).trans ((fp_ne (Or.inr (by omega))).trans ((fp_ne (Or.inr (by omega))).trans (hB0)))), (fp_ne (Or.inl (by decide))).trans ((fp_ne (Or.inr (by omega))).trans ((fp_ne (Or.inr (by omega))).trans ((fp_ne (Or.inr (by omega))).trans (hB1)))), (fp_ne (Or.inl (by decide))).trans ((fp_ne (Or.inr (by omega))).trans ((fp_ne (Or.inr (by omega))).trans ((fp_ne (Or.inr (by omega))).trans (hB2)))), (fp_ne (Or.inl (by decide))).trans ((fp_ne (Or.inr (by omega))).trans ((fp_ne (Or.inr (by omega))).trans ((fp_ne (Or.inr (by omega))).trans (hB3)))), (fp_ne (Or.inl (by decide))).trans ((fp_ne (Or.inr (by omega))).trans ((fp_ne (Or.inr (by omega))).trans ((fp_ne (Or.inr (by omega))).trans (hBd)))), (fp_eq).trans (i_ss _ _ _), ((((hB_s).up).up).ne (by omega)).no (by decide), ((((hB_h).ne (by omega)).ne (by omega)).ne (by omega)).no (by decide), ((((hB_u).ne (by omega)).ne (by omega)).ne (by omega)).no (by decide), ((((hB_c).ne (by omega)).ne (by omega)).up).no (by decide), ((((hB_t).ne (by omega)).ne (by omega)).ne (by omega)).no (by decide), fun j hj l => (fp_ne (Or.inl (by decide))).trans ((fp_ne (Or.inr (by omega))).trans ((fp_ne (Or.inr (by omega))).trans ((fp_ne (Or.inr (by omega))).trans (hBt j hj l)))), fun a b ha hb hn l1 l2 => (fp_ne (Or.inl (by decide))).trans ((fp_ne (Or.inr (by omega))).trans ((fp_ne (Or.inr (by omega))).trans ((fp_ne (Or.inr (by omega))).trans (hBp a b ha hb hn l1 l2))))⟩)
  · skip
    replace c7 := mt (i_le (a := t_m T) (b := k) (by omega) (by omega)).mpr (of_decide_eq_false c7)
    refine Pv.iload rfl rfl ?_
    refine Pv.iload rfl rfl ?_
    refine Pv.callI (as := [.int (m_board T S), .int (Int32.ofNat k)]) (rest := []) (z := b2i (xbit (m_board T S) k)) rfl rfl rfl (g_bitOf (x := m_board T S) (k := k)) ?_
    refine Pv.if0 rfl (fun c45 => ?_) (fun c45 => ?_)
    · skip
      replace c45 : decide (b2i (xbit (m_board T S) k) = 0) = false := by simpa using c45
      replace c45 := of_decide_eq_false c45
      replace c45 := b2n.mp c45
      have eb : m_bit (m_board T S) k = true := by rw [m_bit_bt (by omega), ← xbit_bt (by omega)]; exact c45
      refine Pv.aload rfl rfl ?_
      refine Pv.getR (v := .ref 71) rfl rfl (GW.at (a := 69) (k := 6) (b := 71) hx6 (by decide)) ?_
      refine Pv.lit rfl ?_
      refine Pv.iload rfl rfl ?_
      refine Pv.bin (z := Int32.ofNat (172 + k)) rfl (i_add 172 k) ?_
      refine Pv.iload rfl rfl ?_
      refine Pv.astk (k := 172 + k) (z := Int32.ofNat (1 - m_from S)) rfl (i_toNat (by omega)) (rfl) ?_
      refine Pv.aload rfl rfl ?_
      refine Pv.getR (v := .ref 71) rfl rfl (GW.at (a := 69) (k := 6) (b := 71) hx6 (by decide)) ?_
      refine Pv.lit rfl ?_
      refine Pv.iload rfl rfl ?_
      refine Pv.bin (z := Int32.ofNat (181 + k)) rfl (i_add 181 k) ?_
      refine Pv.dup2 rfl ?_
      refine Pv.ald (z := (m_cT T S k) k) rfl (by rw [i_toNat (by omega)]; exact (fp_ne (Or.inr (by omega))).trans (hA_t _ (by omega))) ?_
      refine Pv.lit rfl ?_
      refine Pv.bin (z := ((m_cT T S k) k) + 1) rfl (rfl) ?_
      refine Pv.astk (k := 181 + k) (z := ((m_cT T S k) k) + 1) rfl (i_toNat (by omega)) (rfl) ?_
      refine Pv.iinc (y := Int32.ofNat (k + 1)) (lo' := [some (.ref 69), some (.int (Int32.ofNat (1 - m_from S))), some (.int (m_board T S)), some (.int (Int32.ofNat (k + 1))), none]) rfl rfl (i_add k 1) rfl ?_
      refine Pv.goto rfl ?_
      exact ih4 (k + 1, (fp (fp GA 71 (172 + k) (Int32.ofNat (1 - m_from S))) 71 (181 + k) (((m_cT T S k) k) + 1))) (⟨by omega, ((hxGA).s (by omega) (by omega)).s (by omega) (by omega), (fp_ne (Or.inr (by omega))).trans ((fp_ne (Or.inr (by omega))).trans (hA0)), (fp_ne (Or.inr (by omega))).trans ((fp_ne (Or.inr (by omega))).trans (hA1)), (fp_ne (Or.inr (by omega))).trans ((fp_ne (Or.inr (by omega))).trans (hA2)), (fp_ne (Or.inr (by omega))).trans ((fp_ne (Or.inr (by omega))).trans (hA3)), (fp_ne (Or.inr (by omega))).trans ((fp_ne (Or.inr (by omega))).trans (hAd)), (fp_ne (Or.inl (by decide))).trans ((fp_ne (Or.inl (by decide))).trans (hAr)), ((hA_s).ne (by omega)).ne (by omega), ((hA_h).ne (by omega)).ne (by omega), ((hA_u).ne (by omega)).ne (by omega), ((hA_c).ne (by omega)).ne (by omega), (((hA_t).ne (by omega)).up).eq ((if_pos eb).symm), fun j hj l => by rw [show m_cA T S (k + 1) = up1 (m_cA T S k) k (Int32.ofNat (1 - m_from S)) from if_pos eb]; exact Or.elim (Classical.em (j = k)) (fun e => by rw [e, up1_eq]; exact (fp_ne (Or.inr (by omega))).trans (fp_eq)) (fun e => by rw [up1_ne e]; exact (fp_ne (Or.inr (by omega))).trans ((fp_ne (Or.inr (by omega))).trans (hAt j hj l))), fun a b ha hb hn l1 l2 => (fp_ne (Or.inr (by omega))).trans ((fp_ne (Or.inr (by omega))).trans (hAp a b ha hb hn l1 l2))⟩)
    · skip
      replace c45 : decide (b2i (xbit (m_board T S) k) = 0) = true := by simpa using c45
      replace c45 := of_decide_eq_true c45
      replace c45 := b2z.mp c45
      have eb : m_bit (m_board T S) k = false := by rw [m_bit_bt (by omega), ← xbit_bt (by omega)]; exact c45
      refine Pv.goto rfl ?_
      refine Pv.iinc (y := Int32.ofNat (k + 1)) (lo' := [some (.ref 69), some (.int (Int32.ofNat (1 - m_from S))), some (.int (m_board T S)), some (.int (Int32.ofNat (k + 1))), none]) rfl rfl (i_add k 1) rfl ?_
      refine Pv.goto rfl ?_
      exact ih4 (k + 1, GA) (⟨by omega, hxGA, hA0, hA1, hA2, hA3, hAd, hAr, hA_s, hA_h, hA_u, hA_c, (hA_t).eq ((if_neg (by rw [eb]; decide)).symm), fun j hj l => (hAt j hj l).trans (congrFun (if_neg (by rw [eb]; decide)).symm j), fun a b ha hb hn l1 l2 => hAp a b ha hb hn l1 l2⟩)
set_option maxRecDepth 100000 in
set_option maxHeartbeats 4000000 in
theorem g_goesOn {F : FW} {n : Nat} {T : St} {S : Sh} (hT : XT F T) (hS : XS F (t_m T) S) (hG : GW F) (hTB : TBB T) (hSB : SB S) (hn : n < 2147483000) : Pm Z_X11_goesOn [.ref 69, .int (Int32.ofNat n)] F (fun r F' => r = some (.int (Int32.ofNat (h_d (m_days T S n) - h_d S))) ∧ RX F F' ∧ XS F' (t_m T) (m_days T S n)) := by
  refine Pm.of fun N => ?_
  obtain ⟨Q, hQ⟩ : ∃ Q : Option Value → FW → Prop, Q = (fun r F' => r = some (.int (Int32.ofNat (h_d (m_days T S n) - h_d S))) ∧ RX F F' ∧ XS F' (t_m T) (m_days T S n)) := ⟨_, rfl⟩
  rw [← hQ]
  have b3 := hT.mb
  have b4 := hT.nb
  have b5 := hT.gb
  have b6 := m_from_lt S
  have b7 := hS.db
  refine (show Pv (ab_T (L_X11_goesOn Z_X11_day)) N 0 [some (.ref 69), some (.int (Int32.ofNat n)), none] [] F Q from ?_)
  refine Pv.lit rfl ?_
  refine Pv.istore (lo' := [some (.ref 69), some (.int (Int32.ofNat n)), some (.int 0)]) rfl rfl ?_
  refine Pv.lp (ι := Nat × FW) (lof := fun ⟨k, G⟩ => [some (.ref 69), some (.int (Int32.ofNat n)), some (.int (Int32.ofNat k))]) (Ff := fun ⟨k, G⟩ => G) (P := fun ⟨k, G⟩ => k ≤ n ∧ RX F G ∧ XS G (t_m T) (m_days T S k) ∧ h_d (m_days T S k) = h_d S + k) ?_ (0, F) (⟨Nat.zero_le _, RX.rf, hS, rfl⟩)
  rintro N1 hN2 ⟨k, G⟩ hi3 ih4
  refine (show Pv _ _ 2 [some (.ref 69), some (.int (Int32.ofNat n)), some (.int (Int32.ofNat k))] [] G Q from ?_)
  obtain ⟨hk, hxG, hXS, hkd⟩ := hi3
  have hx5 := hxG.T hT
  have hx6 := hxG.G hG
  have bD := hXS.db
  refine Pv.iloadS rfl rfl ?_
  refine Pv.iload rfl rfl ?_
  refine Pv.icmp rfl (fun c7 => ?_) (fun c7 => ?_)
  · skip
    replace c7 := (i_le (a := n) (b := k) (by omega) (by omega)).mp (of_decide_eq_true c7)
    refine Pv.iload rfl rfl ?_
    exact Pv.ret rfl (by rw [hQ]; exact ⟨congrArg (fun z => some (Value.int (Int32.ofNat z))) (show k = h_d (m_days T S n) - h_d S by rw [show n = k by omega]; omega), hxG, by rw [show n = k by omega]; exact hXS⟩)
  · skip
    replace c7 := mt (i_le (a := n) (b := k) (by omega) (by omega)).mpr (of_decide_eq_false c7)
    refine Pv.aload rfl rfl ?_
    refine Pv.getR (v := .ref 71) rfl rfl (GW.at (a := 69) (k := 6) (b := 71) hx6 (by decide)) ?_
    refine Pv.lit rfl ?_
    refine Pv.ald (z := Int32.ofNat (h_d (m_days T S k))) rfl (hXS.d) ?_
    refine Pv.lit rfl ?_
    refine Pv.icmp rfl (fun c8 => ?_) (fun c8 => ?_)
    · skip
      replace c8 := (i_le (a := 400) (b := h_d (m_days T S k)) (by omega) (by omega)).mp (of_decide_eq_true c8)
      refine Pv.iload rfl rfl ?_
      exact Pv.ret rfl (by rw [hQ]; exact ⟨congrArg (fun z => some (Value.int (Int32.ofNat z))) (show k = h_d (m_days T S n) - h_d S by rw [m_days_e (T := T) (S := S) (show k ≤ n by omega) (show ¬ h_d (m_days T S k) < 400 by omega)]; omega), hxG, by rw [m_days_e (T := T) (S := S) (show k ≤ n by omega) (show ¬ h_d (m_days T S k) < 400 by omega)]; exact hXS⟩)
    · skip
      replace c8 := mt (i_le (a := 400) (b := h_d (m_days T S k)) (by omega) (by omega)).mpr (of_decide_eq_false c8)
      refine Pv.aload rfl rfl ?_
      refine Pv.callV (as := [.ref 69]) (rest := []) rfl rfl rfl (g_day hx5 hXS hx6 hTB (SB_days hTB hSB b5 k) (by omega)) ?_
      rintro _ G9 ⟨rfl, x10, xs12⟩
      have hx11 := RX.tr hxG x10
      have hx13 := hx11.T hT
      have hx14 := hx11.G hG
      refine (show Pv _ _ 24 [some (.ref 69), some (.int (Int32.ofNat n)), some (.int (Int32.ofNat k))] [] G9 Q from ?_)
      refine Pv.iinc (y := Int32.ofNat (k + 1)) (lo' := [some (.ref 69), some (.int (Int32.ofNat n)), some (.int (Int32.ofNat (k + 1)))]) rfl rfl (i_add k 1) rfl ?_
      refine Pv.goto rfl ?_
      exact ih4 (k + 1, G9) (⟨by omega, hx11, by rw [m_days_s (by omega)]; exact xs12, by rw [m_days_s (by omega)]; show h_d (m_days T S k) + 1 = _; omega⟩)
end
-- 63.b50.opm.lean.txt
section
/-! ===== what the calls answer, by the model ===== -/
/-- a number from 0 to n - 1 -/
def nd (n : Nat) (x : Int32) : Option Nat := if 0 ≤ x.toInt ∧ x.toInt < n then some x.toInt.toNat else none
theorem nd_some {n k : Nat} {x : Int32} (h : nd n x = some k) : k < n ∧ x = Int32.ofNat k := by
  unfold nd at h
  split at h
  · rename_i c
    obtain rfl := Option.some.inj h
    refine ⟨by omega, Int32.toInt_inj.mp ?_⟩
    have := Int32.toInt_lt x
    rw [i_toInt (by omega)]
    omega
  · cases h
theorem nd_of {n k : Nat} (h : k < n) (hn : n < 2147483648) : nd n (Int32.ofNat k) = some k := by
  unfold nd
  rw [i_toInt (by omega), if_pos (by omega)]
  rfl
theorem nd_t {n : Nat} {x : Int32} (h : (nd n x).isSome = true) : ∃ k, nd n x = some k ∧ k < n ∧ x = Int32.ofNat k := by
  obtain ⟨k, hk⟩ := Option.isSome_iff_exists.mp h
  exact ⟨k, hk, nd_some hk⟩
theorem nd_f {n : Nat} {x : Int32} (h : (nd n x).isSome = false) : nd n x = none := by
  cases e : nd n x with
  | none => rfl
  | some k =>
    rw [e] at h
    cases h
theorem nd_le {n : Nat} {x : Int32} (hn : n < 2147483648) : (decide (0 ≤ x) && decide (x < Int32.ofNat n)) = (nd n x).isSome := by
  unfold nd
  have e1 : (0 ≤ x) ↔ 0 ≤ x.toInt := by
    rw [Int32.le_iff_toInt_le]
    rfl
  have e2 : (x < Int32.ofNat n) ↔ x.toInt < n := by rw [Int32.lt_iff_toInt_lt, i_toInt hn]
  by_cases h1 : 0 ≤ x.toInt
  · rw [decide_eq_true (e1.mpr h1)]
    by_cases h2 : x.toInt < n
    · rw [decide_eq_true (e2.mpr h2), if_pos ⟨h1, h2⟩]
      rfl
    · rw [decide_eq_false (fun c => h2 (e2.mp c)), if_neg (fun c => h2 c.2)]
      rfl
  · rw [decide_eq_false (fun c => h1 (e1.mp c)), if_neg (fun c => h1 c.1)]
    rfl
theorem nd_b {n : Nat} {x : Int32} (hn : n < 2147483648) : (!decide (x < 0) && !decide (Int32.ofNat n ≤ x)) = (nd n x).isSome := by
  rw [← nd_le hn]
  congr 1
  · by_cases h : x < 0
    · rw [decide_eq_true h, decide_eq_false (Int32.not_le.mpr h)]
      rfl
    · rw [decide_eq_false h, decide_eq_true (Int32.not_lt.mp h)]
      rfl
  · by_cases h : Int32.ofNat n ≤ x
    · rw [decide_eq_true h, decide_eq_false (Int32.not_lt.mpr h)]
      rfl
    · rw [decide_eq_false h, decide_eq_true (Int32.not_le.mp h)]
      rfl
theorem nd_in {n : Nat} {x : Int32} (hn : n < 2147483648) : (decide (0 ≤ x) && decide (x ≤ Int32.ofNat n - 1)) = (nd n x).isSome := by
  rw [← nd_le hn]
  congr 1
  have e : (x ≤ Int32.ofNat n - 1) ↔ (x < Int32.ofNat n) := by
    rw [Int32.le_iff_toInt_le, Int32.lt_iff_toInt_lt, i_subI (by rw [i_toInt hn]; show _ ≤ (n : Int) - 1; omega) (by rw [i_toInt hn]; show (n : Int) - 1 ≤ _; omega), i_toInt hn]
    show x.toInt ≤ (n : Int) - 1 ↔ _
    omega
  by_cases h : x < Int32.ofNat n
  · rw [decide_eq_true h, decide_eq_true (e.mpr h)]
  · rw [decide_eq_false h, decide_eq_false (fun c => h (e.mp c))]
theorem nd_2 {x : Int32} : (decide (x = 0) || decide (x = 1)) = (nd 2 x).isSome := by
  by_cases h0 : x = 0
  · subst h0
    rfl
  · by_cases h1 : x = 1
    · subst h1
      rfl
    · rw [decide_eq_false h0, decide_eq_false h1]
      cases e : nd 2 x with
      | none => rfl
      | some k =>
        obtain ⟨a, b⟩ := nd_some e
        have : k = 0 ∨ k = 1 := by omega
        rcases this with rfl | rfl
        · exact absurd b h0
        · exact absurd b h1
theorem nd_tab {ts : List Nat} {d n : Nat} {x : Int32} (h : nd n x = none) (hn : ts.length ≤ n) : cond (decide (x.toInt < 0)) d ((ts[(x.toInt - 0).toNat]?).getD d) = d := by
  by_cases c : x.toInt < 0
  · rw [decide_eq_true c]
    rfl
  · rw [decide_eq_false c]
    have c2 : (n : Int) ≤ x.toInt := by
      unfold nd at h
      split at h
      · cases h
      · omega
    show (ts[(x.toInt - 0).toNat]?).getD d = d
    rw [List.getElem?_eq_none_iff.mpr (by omega)]
    rfl
theorem nd_8 (x : Int32) : x = 0 ∨ x = 1 ∨ x = 2 ∨ x = 3 ∨ x = 4 ∨ x = 5 ∨ x = 6 ∨ x = 7 ∨ nd 8 x = none := by
  cases e : nd 8 x with
  | none => simp
  | some k =>
    obtain ⟨a, rfl⟩ := nd_some e
    match k, a with
    | 0, _ => exact Or.inl rfl
    | 1, _ => exact Or.inr (Or.inl rfl)
    | 2, _ => exact Or.inr (Or.inr (Or.inl rfl))
    | 3, _ => exact Or.inr (Or.inr (Or.inr (Or.inl rfl)))
    | 4, _ => exact Or.inr (Or.inr (Or.inr (Or.inr (Or.inl rfl))))
    | 5, _ => exact Or.inr (Or.inr (Or.inr (Or.inr (Or.inr (Or.inl rfl)))))
    | 6, _ => exact Or.inr (Or.inr (Or.inr (Or.inr (Or.inr (Or.inr (Or.inl rfl))))))
    | 7, _ => exact Or.inr (Or.inr (Or.inr (Or.inr (Or.inr (Or.inr (Or.inr (Or.inl rfl)))))))
    | k + 8, h => exact absurd h (by omega)
theorem nd_7 (x : Int32) : x = 0 ∨ x = 1 ∨ x = 2 ∨ x = 3 ∨ x = 4 ∨ x = 5 ∨ x = 6 ∨ nd 7 x = none := by
  cases e : nd 7 x with
  | none => simp
  | some k =>
    obtain ⟨a, rfl⟩ := nd_some e
    match k, a with
    | 0, _ => exact Or.inl rfl
    | 1, _ => exact Or.inr (Or.inl rfl)
    | 2, _ => exact Or.inr (Or.inr (Or.inl rfl))
    | 3, _ => exact Or.inr (Or.inr (Or.inr (Or.inl rfl)))
    | 4, _ => exact Or.inr (Or.inr (Or.inr (Or.inr (Or.inl rfl))))
    | 5, _ => exact Or.inr (Or.inr (Or.inr (Or.inr (Or.inr (Or.inl rfl)))))
    | 6, _ => exact Or.inr (Or.inr (Or.inr (Or.inr (Or.inr (Or.inr (Or.inl rfl))))))
    | k + 7, h => exact absurd h (by omega)
theorem nd_5 (x : Int32) : x = 0 ∨ x = 1 ∨ x = 2 ∨ x = 3 ∨ x = 4 ∨ nd 5 x = none := by
  cases e : nd 5 x with
  | none => simp
  | some k =>
    obtain ⟨a, rfl⟩ := nd_some e
    match k, a with
    | 0, _ => exact Or.inl rfl
    | 1, _ => exact Or.inr (Or.inl rfl)
    | 2, _ => exact Or.inr (Or.inr (Or.inl rfl))
    | 3, _ => exact Or.inr (Or.inr (Or.inr (Or.inl rfl)))
    | 4, _ => exact Or.inr (Or.inr (Or.inr (Or.inr (Or.inl rfl))))
    | k + 5, h => exact absurd h (by omega)
/-- a GOOD on a SHORE, or NONE -/
def aGS (T : St) (x y : Int32) (f : Nat → Nat → Int32) : Int32 := match nd (t_g T) x with
  | none => -1
  | some g => match nd 2 y with
    | none => -1
    | some s => f g s
theorem aGS_t {T : St} {x y : Int32} {f : Nat → Nat → Int32} {g s : Nat} (h1 : nd (t_g T) x = some g) (h2 : nd 2 y = some s) : aGS T x y f = f g s := by
  unfold aGS
  rw [h1]
  dsimp only
  rw [h2]
theorem aGS_f {T : St} {x y : Int32} {f : Nat → Nat → Int32} (h : ((nd (t_g T) x).isSome && (nd 2 y).isSome) = false) : aGS T x y f = -1 := by
  unfold aGS
  cases e1 : nd (t_g T) x with
  | none => rfl
  | some g =>
    rw [e1] at h
    cases e2 : nd 2 y with
    | none => rfl
    | some s =>
      rw [e2] at h
      cases h
theorem gs_t {T : St} {x y : Int32} (h : ((nd (t_g T) x).isSome && (nd 2 y).isSome) = true) : ∃ g s, nd (t_g T) x = some g ∧ nd 2 y = some s ∧ g < t_g T ∧ s < 2 ∧ x = Int32.ofNat g ∧ y = Int32.ofNat s := by
  rw [Bool.and_eq_true] at h
  obtain ⟨g, a, b, c⟩ := nd_t h.1
  obtain ⟨s, a', b', c'⟩ := nd_t h.2
  exact ⟨g, s, a, a', b, b', c, c'⟩
def a_good (T : St) (S : Sh) (x y w : Int32) : Int32 := aGS T x y fun g s => match nd 8 w with
  | none => -1
  | some k => match k with
    | 0 => h_s S (2 * g + s)
    | 1 => h_h S (2 * g + s)
    | 2 => t_a T (1 * 12 + (2 * g + s))
    | 3 => t_a T (2 * 12 + (2 * g + s))
    | 4 => t_a T (3 * 12 + (2 * g + s))
    | 5 => m_lack T S (2 * g + s)
    | 6 => b2i (m_false T S (2 * g + s))
    | _ => h_u S (2 * g + s)
def a_crossed (T : St) (S : Sh) (x y : Int32) : Int32 := aGS T x y fun g s => h_c S (2 * g + s)
/-- two who live and are unlike -/
def liv2 (T : St) (S : Sh) (x y : Int32) : Option (Nat × Nat) := match nd (t_m T) x with
  | none => none
  | some m => match nd (t_m T) y with
    | none => none
    | some o => if ¬ m = o ∧ m_alive S m = true ∧ m_alive S o = true then some (m, o) else none
def a_apart (T : St) (S : Sh) (x y : Int32) : Int32 := match liv2 T S x y with
  | none => -1
  | some q => m_apart S q.1 q.2
def a_now (T : St) (S : Sh) (w : Int32) : Int32 := match nd 7 w with
  | none => -1
  | some k => match k with
    | 0 => Int32.ofNat (h_d S)
    | 1 => Int32.ofNat (m_from S)
    | 2 => m_men T S 0
    | 3 => m_men T S 1
    | 4 => h_i S
    | 5 => h_r S
    | _ => m_sum (h_u S) 12
def a_lacks (T : St) (S : Sh) (y : Int32) : Int32 := match nd 2 y with
  | none => -1
  | some s => m_bits (fun g => !decide (m_lack T S (2 * g + s) ≤ 0)) id (t_g T)
def a_falses (T : St) (S : Sh) (y : Int32) : Int32 := match nd 2 y with
  | none => -1
  | some s => m_bits (fun g => m_false T S (2 * g + s)) id (t_g T)
/-- the first of the greatest above 0: how great, which -/
def m_top (f : Nat → Int32) : Nat → Int32 × Int32
  | 0 => (0, -1)
  | k + 1 => if f k ≤ (m_top f k).1 then m_top f k else (f k, Int32.ofNat k)
def a_hoarded (T : St) (S : Sh) (y : Int32) : Int32 := match nd 2 y with
  | none => -1
  | some s => (m_top (fun g => h_h S (2 * g + s)) (t_g T)).2
def jbc1 (x : Int32) : Int32 := x - ((x.toUInt32 >>> ((1 : Int32).toUInt32 &&& Int32.toUInt32 31)).toInt32 &&& 1431655765)
def jbc2 (x : Int32) : Int32 := (x &&& 858993459) + ((x.toUInt32 >>> ((2 : Int32).toUInt32 &&& Int32.toUInt32 31)).toInt32 &&& 858993459)
def jbc3 (x : Int32) : Int32 := (x + (x.toUInt32 >>> ((4 : Int32).toUInt32 &&& Int32.toUInt32 31)).toInt32) &&& 252645135
def jbc4 (x : Int32) : Int32 := x + (x.toUInt32 >>> ((8 : Int32).toUInt32 &&& Int32.toUInt32 31)).toInt32
def jbc5 (x : Int32) : Int32 := x + (x.toUInt32 >>> ((16 : Int32).toUInt32 &&& Int32.toUInt32 31)).toInt32
def jbc (x : Int32) : Int32 := jbc5 (jbc4 (jbc3 (jbc2 (jbc1 x)))) &&& 63
/-- the lowest bit taken away, n times at most: how often -/
def rbits : Nat → Int32 → Int32
  | 0, _ => 0
  | n + 1, x => if x = 0 then 0 else rbits n (x &&& (x - 1)) + 1
def a_dearest (T : St) (S : Sh) : Int32 := (m_top (fun m => jbc (m_missers T S m)) (t_m T)).2
def a_rats (T : St) (S : Sh) : Int32 := m_bits (fun m => m_alive S m && !m_could T S m (t_n T)) id (t_m T)
def a_going (T : St) (S : Sh) : Int32 := m_board T S
def a_goes (T : St) (S : Sh) (x : Int32) : Int32 := match nd (t_g T) x with
  | none => -1
  | some g => m_fr T S g
/-- the class's own rows for trying; the reference's -/
def CDR (F F' : FW) : Prop := FX (fun q => (7 ≤ q ∧ q ≤ 9) ∨ (20 ≤ q ∧ q ≤ 35) ∨ q = 40 ∨ q = 43) F F'
def RDR (F F' : FW) : Prop := FX (fun q => q = 69 ∨ q = 71 ∨ q = 78 ∨ q = 79) F F' ∧ (∀ k, F'.1 71 k = F.1 71 k) ∧ ∀ k, k ≠ 0 → k ≠ 22 → k ≠ 29 → F'.1 69 k = F.1 69 k
theorem RDR.rf {F : FW} : RDR F F := ⟨FX.rf, fun _ => rfl, fun _ _ _ _ => rfl⟩
theorem RDR.tr {F G H : FW} (a : RDR F G) (b : RDR G H) : RDR F H := ⟨a.1.tr b.1, fun k => (b.2.1 k).trans (a.2.1 k), fun k h1 h2 h3 => (b.2.2 k h1 h2 h3).trans (a.2.2 k h1 h2 h3)⟩
theorem RDR.fp {F G : FW} {k : Nat} {v : Int32} (h : RDR F G) (c : k = 0 ∨ k = 22 ∨ k = 29) : RDR F (fp G 69 k v) := ⟨h.1.fp (Or.inl rfl), fun j => (fp_ne (Or.inl (by decide))).trans (h.2.1 j), fun j h1 h2 h3 => (fp_ne (Or.inr (by omega))).trans (h.2.2 j h1 h2 h3)⟩
theorem RDR.T {F G : FW} {T : St} (h : RDR F G) (t : XT F T) : XT G T := t.of fun k _ => h.2.1 k
theorem RDR.S {F G : FW} {m : Nat} {S : Sh} (h : RDR F G) (hm : m ≤ 8) (t : XS F m S) : XS G m S := t.of hm fun k _ _ => h.2.1 k
theorem RDR.G {F G : FW} (h : RDR F G) (g : GW F) : GW G := g.fx h.1
theorem GW.o12 {F : FW} (h : GW F) : O7 F 12 := fun j hj => match j, hj with
  | 0, _ => h.at (a := 12) (k := 0) (b := 13) (by decide)
  | 1, _ => h.at (a := 12) (k := 1) (b := 14) (by decide)
  | 2, _ => h.at (a := 12) (k := 2) (b := 15) (by decide)
  | 3, _ => h.at (a := 12) (k := 3) (b := 16) (by decide)
  | 4, _ => h.at (a := 12) (k := 4) (b := 17) (by decide)
  | 5, _ => h.at (a := 12) (k := 5) (b := 18) (by decide)
  | 6, _ => h.at (a := 12) (k := 6) (b := 19) (by decide)
  | j + 7, h => absurd h (by omega)
theorem GW.o20 {F : FW} (h : GW F) : O7 F 20 := fun j hj => match j, hj with
  | 0, _ => h.at (a := 20) (k := 0) (b := 21) (by decide)
  | 1, _ => h.at (a := 20) (k := 1) (b := 22) (by decide)
  | 2, _ => h.at (a := 20) (k := 2) (b := 23) (by decide)
  | 3, _ => h.at (a := 20) (k := 3) (b := 24) (by decide)
  | 4, _ => h.at (a := 20) (k := 4) (b := 25) (by decide)
  | 5, _ => h.at (a := 20) (k := 5) (b := 26) (by decide)
  | 6, _ => h.at (a := 20) (k := 6) (b := 27) (by decide)
  | j + 7, h => absurd h (by omega)
theorem GW.o28 {F : FW} (h : GW F) : O7 F 28 := fun j hj => match j, hj with
  | 0, _ => h.at (a := 28) (k := 0) (b := 29) (by decide)
  | 1, _ => h.at (a := 28) (k := 1) (b := 30) (by decide)
  | 2, _ => h.at (a := 28) (k := 2) (b := 31) (by decide)
  | 3, _ => h.at (a := 28) (k := 3) (b := 32) (by decide)
  | 4, _ => h.at (a := 28) (k := 4) (b := 33) (by decide)
  | 5, _ => h.at (a := 28) (k := 5) (b := 34) (by decide)
  | 6, _ => h.at (a := 28) (k := 6) (b := 35) (by decide)
  | j + 7, h => absurd h (by omega)
theorem liv2_s {T : St} {S : Sh} {x y : Int32} {q : Nat × Nat} (h : liv2 T S x y = some q) : q.1 < t_m T ∧ q.2 < t_m T ∧ ¬ q.1 = q.2 ∧ m_alive S q.1 = true ∧ m_alive S q.2 = true ∧ x = Int32.ofNat q.1 ∧ y = Int32.ofNat q.2 := by
  unfold liv2 at h
  split at h
  · cases h
  · rename_i m hm
    split at h
    · cases h
    · rename_i o ho
      split at h
      · rename_i c
        obtain rfl := Option.some.inj h
        exact ⟨(nd_some hm).1, (nd_some ho).1, c.1, c.2.1, c.2.2, (nd_some hm).2, (nd_some ho).2⟩
      · cases h
theorem liv2_n {T : St} {S : Sh} {x y : Int32} (h : (liv2 T S x y).isSome = false) : liv2 T S x y = none := by
  cases e : liv2 T S x y with
  | none => rfl
  | some q =>
    rw [e] at h
    cases h
def m_falser (w x y : Int32) : Bool := !decide (m_lackr w x ≤ 0) && decide (m_lackr w x ≤ y)
/-- what is hoarded stays small -/
def HB (S : Sh) : Prop := ∀ k, k < 12 → 0 ≤ (h_h S k).toInt ∧ (h_s S k).toInt + (h_h S k).toInt ≤ 250 + 290 * (h_d S : Int)
theorem m_false_eq {T : St} {S : Sh} (hT : TBB T) (hS : SB S) (hH : HB S) (hd : h_d S ≤ 400) {k : Nat} (hk : k < 12) : m_false T S k = m_falser (t_a T (1 * 12 + k)) (h_s S k) (h_h S k) := by
  have h1 := hT.2.2 (1 * 12 + k) (by omega)
  have h2 := hS k hk
  have h4 := hH k hk
  have h3 := i_subI (a := t_a T (1 * 12 + k)) (b := h_s S k) (by omega) (by omega)
  have h5 := i_addI (a := h_s S k) (b := h_h S k) (by omega) (by omega)
  unfold m_false m_falser
  rw [lackr_eq, Bool.eq_iff_iff, Bool.and_eq_true, Bool.and_eq_true, Bool.not_eq_true', Bool.not_eq_true', Bool.not_eq_true', decide_eq_false_iff_not, decide_eq_false_iff_not, decide_eq_false_iff_not, decide_eq_true_eq, Int32.le_iff_toInt_le, Int32.lt_iff_toInt_lt, Int32.le_iff_toInt_le, Int32.le_iff_toInt_le, h5, i_0]
  rcases mx_c 0 (t_a T (1 * 12 + k) - h_s S k) with ⟨a, e⟩ | ⟨a, e⟩ <;> rw [e] <;> rw [i_0] at a <;> (try rw [i_0]) <;> omega
theorem fr_r {T : St} {S : Sh} (hT : TBB T) (hS : SB S) {g : Nat} (hg : g < 6) : (m_fr T S g).toInt ≤ 40 := by
  have ih := pg_b hT hS g (by omega)
  have hr := room_b (S := S) hT
  have b6 := m_from_lt S
  have h1 := i_subI (a := m_room T S) (b := m_pg T S g) (by omega) (by omega)
  have h3 := lack_b hT hS (k := 2 * g + (1 - m_from S)) (by omega)
  have h2 := moved_b (s := h_s S (2 * g + m_from S)) (l := m_lack T S (2 * g + (1 - m_from S))) (r := m_room T S - m_pg T S g) (hS _ (by omega)).1 h3.1 (by omega)
  unfold m_fr
  omega
theorem cS_40 {T : St} {S : Sh} (hT : TBB T) (hS : SB S) {g j : Nat} (hg : g ≤ 6) (hj : j < 12) : (m_cS T S g j).toInt ≤ (h_s S j).toInt + 40 := by
  have b6 := m_from_lt S
  have hb := hS j hj
  by_cases c : 2 * g ≤ j
  · rw [cS_ge c]
    omega
  · have hf := fr_b hT hS (g := j / 2) (by omega)
    have hf4 := fr_r hT hS (g := j / 2) (by omega)
    by_cases d : j = 2 * (j / 2) + m_from S
    · have e := cS_1 (T := T) (S := S) (k := j / 2) (g := g) (by omega)
      rw [← d] at e hf
      rw [e, i_subI (by omega) (by omega)]
      omega
    · have d2 : j = 2 * (j / 2) + (1 - m_from S) := by omega
      have e := cS_2 (T := T) (S := S) (k := j / 2) (g := g) (by omega)
      rw [← d2] at e hf
      have hf2 := hf.2.2
      rw [e, i_addI (by omega) (by omega)]
      omega
theorem HB_day {T : St} {S : Sh} (hT : TBB T) (hS : SB S) (hg : t_g T ≤ 6) (hH : HB S) : HB (m_day T S) := by
  intro k hk
  have h1 := hH k hk
  have h2 := cS_40 hT hS (g := t_g T) (j := k) hg hk
  have h3 := SB_carry hT hS hg k hk
  refine ⟨h1.1, ?_⟩
  show (m_eS T (m_carry T S) (2 * t_g T) k).toInt + (h_h S k).toInt ≤ 250 + 290 * ((h_d S + 1 : Nat) : Int)
  have h4 : (m_eS T (m_carry T S) (2 * t_g T) k).toInt ≤ (m_cS T S (t_g T) k).toInt + 250 := by
    by_cases c : 2 * t_g T ≤ k
    · rw [eS_ge c]
      show (m_cS T S (t_g T) k).toInt ≤ _
      omega
    · rw [eS_lt (by omega)]
      have h5 := left_b hT hk h3.1 h3.2
      have a := hT.2.2 (36 + k) (by omega)
      have b := hT.2.2 (24 + k) (by omega)
      have h3' : 0 ≤ (m_cS T S (t_g T) k).toInt ∧ (m_cS T S (t_g T) k).toInt ≤ 999 := h3
      have e1 : h_s (m_carry T S) k = m_cS T S (t_g T) k := rfl
      rw [e1] at h5 ⊢
      have c2 := i_addI (a := m_cS T S (t_g T) k) (b := t_a T (36 + k)) (by omega) (by omega)
      have d : (ab_min 999 (m_cS T S (t_g T) k + t_a T (36 + k))).toInt ≤ (m_cS T S (t_g T) k).toInt + (t_a T (36 + k)).toInt := by
        rcases mn_c 999 (m_cS T S (t_g T) k + t_a T (36 + k)) with ⟨q, e⟩ | ⟨q, e⟩ <;> rw [e] <;> rw [i_999] at q <;> (try rw [i_999]) <;> omega
      rcases mx_c 0 (m_left T k (m_cS T S (t_g T) k)) with ⟨q, e⟩ | ⟨q, e⟩ <;> rw [e] <;> rw [i_0] at q <;> (try rw [i_0]) <;> omega
  have e2 : ((h_d S + 1 : Nat) : Int) = (h_d S : Int) + 1 := by omega
  rw [e2]
  omega
def bk (k : Nat) : Nat := (Int32.ofNat k &&& (Int32.ofNat k - 1)).toInt.toNat
set_option maxRecDepth 100000 in
theorem bk_all : ∀ k, k < 256 → ¬ k = 0 → Int32.ofNat k &&& (Int32.ofNat k - 1) = Int32.ofNat (bk k) ∧ bk k < k := by decide +kernel
theorem bk_ok (k : Nat) (h : k < 256) (h0 : ¬ k = 0) : Int32.ofNat k &&& (Int32.ofNat k - 1) = Int32.ofNat (bk k) ∧ bk k < k := bk_all k h h0
set_option maxRecDepth 100000 in
theorem jbc_all : ∀ k, k < 256 → jbc (Int32.ofNat k) = rbits 257 (Int32.ofNat k) := by decide +kernel
theorem jbc_rb (k : Nat) (h : k < 256) : jbc (Int32.ofNat k) = rbits 257 (Int32.ofNat k) := jbc_all k h
theorem rb_0 {n k : Nat} (h : k = 0) : rbits n (Int32.ofNat k) = 0 := by
  subst h
  cases n with
  | zero => rfl
  | succ n => exact if_pos rfl
theorem rb_step {n k v : Nat} {b : Int32} (hn : k < n) (hk : k < 256) (he : rbits 257 (Int32.ofNat v) = rbits n (Int32.ofNat k) + b) (h0 : ¬ k = 0) : bk k < n - 1 ∧ bk k < 256 ∧ rbits 257 (Int32.ofNat v) = rbits (n - 1) (Int32.ofNat (bk k)) + (b + 1) := by
  obtain ⟨a, c⟩ := bk_ok k hk h0
  refine ⟨by omega, by omega, ?_⟩
  rw [he]
  obtain ⟨m, rfl⟩ : ∃ m, n = m + 1 := ⟨n - 1, by omega⟩
  have e : rbits (m + 1) (Int32.ofNat k) = rbits m (Int32.ofNat k &&& (Int32.ofNat k - 1)) + 1 := if_neg (fun q => h0 ((i_eq (a := k) (b := 0) (by omega) (by omega)).mp q))
  rw [e, a]
  show rbits m (Int32.ofNat (bk k)) + 1 + b = rbits m (Int32.ofNat (bk k)) + (b + 1)
  rw [Int32.add_assoc, Int32.add_comm 1 b]
theorem small_bits {f : Nat → Bool} {g : Nat → Nat} {n : Nat} (hg : ∀ k, k < n → g k < 8) : ∃ v, v < 256 ∧ m_bits f g n = Int32.ofNat v := by
  refine ⟨(m_bits f g n).toBitVec.toNat, ?_, ?_⟩
  · refine Nat.lt_pow_two_of_testBit (n := 8) _ fun i hi => ?_
    cases e : (m_bits f g n).toBitVec.toNat.testBit i with
    | false => rfl
    | true =>
      have h : btb (m_bits f g n) i = true := e
      obtain ⟨k, h1, h2, h3⟩ := (bt_bits (fun k hk => by have := hg k hk; omega)).mp h
      have := hg k h1
      omega
  · refine Int32.toBitVec_inj.mp ?_
    show _ = BitVec.ofNat 32 _
    rw [BitVec.ofNat_toNat, BitVec.setWidth_eq]
theorem missers_small {T : St} {S : Sh} (hT : TW T) (m : Nat) : ∃ v, v < 256 ∧ m_missers T S m = Int32.ofNat v := small_bits fun k hk => by
  have h1 := (hT.2.2.2.1 k hk).1
  have h2 := hT.2.1
  omega
/-- men are dead or on a shore -/
def AB (T : St) (S : Sh) : Prop := ∀ k, k < t_m T → h_a S k = -1 ∨ h_a S k = 0 ∨ h_a S k = 1
theorem rat_clr {b : Int32} {m j : Nat} (hm : m < 32) (hj : j < 32) : btb (b &&& (1 <<< (Int32.ofNat m &&& 31) ^^^ (-1))) j = (btb b j && !decide (m = j)) := by
  rw [bt_and]
  congr 1
  unfold btb
  rw [Int32.toBitVec_xor, sh_bv m hm, BitVec.getLsbD_xor, BitVec.getLsbD_twoPow]
  have h1 : ((-1 : Int32).toBitVec).getLsbD j = true := by
    show (BitVec.allOnes 32).getLsbD j = true
    rw [BitVec.getLsbD_allOnes]
    exact decide_eq_true hj
  rw [h1]
  by_cases h : m = j
  · subst h
    simp [hm]
  · simp [h]
theorem rats_eq {T : St} {S : Sh} {b : Int32} (hA : AB T S) (h8 : t_m T ≤ 8) (h : ∀ j, j < 32 → btb b j = (btb (m_men T S 0 ||| m_men T S 1) j && !m_could T S j (t_n T))) : b = a_rats T S := by
  refine bt_ext fun j hj => ?_
  rw [h j hj, bt_or]
  unfold a_rats m_men
  have k1 : ∀ k, k < t_m T → id k < 32 := fun k hk => by show k < 32; omega
  rw [Bool.eq_iff_iff, Bool.and_eq_true, Bool.or_eq_true, bt_bits k1, bt_bits k1, bt_bits k1]
  constructor
  · rintro ⟨⟨k, a, c, rfl⟩ | ⟨k, a, c, rfl⟩, d⟩
    · refine ⟨k, a, ?_, rfl⟩
      have c' := of_decide_eq_true c
      unfold m_alive
      rw [c']
      have d' : (!m_could T S k (t_n T)) = true := d
      rw [d']
      decide
    · refine ⟨k, a, ?_, rfl⟩
      have c' := of_decide_eq_true c
      unfold m_alive
      rw [c']
      have d' : (!m_could T S k (t_n T)) = true := d
      rw [d']
      decide
  · rintro ⟨k, a, c, rfl⟩
    have c' := Bool.and_eq_true .. ▸ c
    refine ⟨?_, c'.2⟩
    have al := c'.1
    rcases hA k a with e | e | e
    · unfold m_alive at al
      rw [e] at al
      exact absurd al (by decide)
    · exact Or.inl ⟨k, a, decide_eq_true e, rfl⟩
    · exact Or.inr ⟨k, a, decide_eq_true e, rfl⟩
theorem pm_0 {T : St} {S : Sh} (h : 400 ≤ h_d S) : ∀ k, m_pm T S k = (0, 0)
  | 0 => rfl
  | k + 1 => by
    have ih := pm_0 (T := T) h k
    have er : m_room T S = 0 := if_neg (by omega)
    rw [m_pm_f (Or.inl (by rw [ih, er]; decide)), ih]
theorem board_0 {T : St} {S : Sh} (h : 400 ≤ h_d S) : m_board T S = 0 := by
  unfold m_board
  rw [pm_0 h]
end
-- 63.b51.oc.lean.txt
section
set_option maxRecDepth 100000 in
set_option maxHeartbeats 4000000 in
theorem o_isGood {F : FW} {t : Nat} {T : St} {S : Sh} (hG : GW F) (ht : F.2.1 0 13 = .ref t) (hT : TR F t T) (hS : SHR F 12 (t_m T) S) (j0 : t = 45 ∨ t = 53) (x : Int32) : Pm Z_X10_isGood [.ref 0, .int x] F (fun r F' => r = some (.int (b2i (nd (t_g T) x).isSome)) ∧ F' = F) := by
  refine Pm.of fun N => ?_
  obtain ⟨Q, hQ⟩ : ∃ Q : Option Value → FW → Prop, Q = (fun r F' => r = some (.int (b2i (nd (t_g T) x).isSome)) ∧ F' = F) := ⟨_, rfl⟩
  rw [← hQ]
  have b3 := hT.mb
  have b4 := hT.nb
  have b5 := hT.gb
  have b6 := m_from_lt S
  have b7 := hS.db
  refine (show Pv (ab_T L_X10_isGood) N 0 [some (.ref 0), some (.int x)] [] F Q from ?_)
  refine Pv.iload rfl rfl ?_
  refine Pv.if0 rfl (fun c1 => ?_) (fun c1 => ?_)
  · skip
    replace c1 := of_decide_eq_true c1
    refine Pv.lit rfl ?_
    exact Pv.zret rfl (by rw [hQ]; exact ⟨by rw [← nd_b (by omega)]; exact b2_f (by simp [c1]), rfl⟩)
  · skip
    replace c1 := of_decide_eq_false c1
    refine Pv.iload rfl rfl ?_
    refine Pv.aload rfl rfl ?_
    refine Pv.getR (v := .ref t) rfl rfl (ht) ?_
    refine Pv.getI (z := Int32.ofNat (t_g T)) rfl rfl (hT.g) ?_
    refine Pv.icmp rfl (fun c2 => ?_) (fun c2 => ?_)
    · skip
      replace c2 := of_decide_eq_true c2
      refine Pv.lit rfl ?_
      exact Pv.zret rfl (by rw [hQ]; exact ⟨by rw [← nd_b (by omega)]; exact b2_f (by simp [c1, c2]), rfl⟩)
    · skip
      replace c2 := of_decide_eq_false c2
      refine Pv.lit rfl ?_
      refine Pv.goto rfl ?_
      exact Pv.zret rfl (by rw [hQ]; exact ⟨by rw [← nd_b (by omega)]; exact b2_t (by simp [c1, c2]), rfl⟩)
set_option maxRecDepth 100000 in
set_option maxHeartbeats 4000000 in
theorem o_isMan {F : FW} {t : Nat} {T : St} {S : Sh} (hG : GW F) (ht : F.2.1 0 13 = .ref t) (hT : TR F t T) (hS : SHR F 12 (t_m T) S) (j0 : t = 45 ∨ t = 53) (x : Int32) : Pm Z_X10_isMan [.ref 0, .int x] F (fun r F' => r = some (.int (b2i (nd (t_m T) x).isSome)) ∧ F' = F) := by
  refine Pm.of fun N => ?_
  obtain ⟨Q, hQ⟩ : ∃ Q : Option Value → FW → Prop, Q = (fun r F' => r = some (.int (b2i (nd (t_m T) x).isSome)) ∧ F' = F) := ⟨_, rfl⟩
  rw [← hQ]
  have b3 := hT.mb
  have b4 := hT.nb
  have b5 := hT.gb
  have b6 := m_from_lt S
  have b7 := hS.db
  refine (show Pv (ab_T L_X10_isMan) N 0 [some (.ref 0), some (.int x)] [] F Q from ?_)
  refine Pv.iload rfl rfl ?_
  refine Pv.if0 rfl (fun c1 => ?_) (fun c1 => ?_)
  · skip
    replace c1 := of_decide_eq_true c1
    refine Pv.lit rfl ?_
    exact Pv.zret rfl (by rw [hQ]; exact ⟨by rw [← nd_b (by omega)]; exact b2_f (by simp [c1]), rfl⟩)
  · skip
    replace c1 := of_decide_eq_false c1
    refine Pv.iload rfl rfl ?_
    refine Pv.aload rfl rfl ?_
    refine Pv.getR (v := .ref t) rfl rfl (ht) ?_
    refine Pv.getI (z := Int32.ofNat (t_m T)) rfl rfl (hT.m) ?_
    refine Pv.icmp rfl (fun c2 => ?_) (fun c2 => ?_)
    · skip
      replace c2 := of_decide_eq_true c2
      refine Pv.lit rfl ?_
      exact Pv.zret rfl (by rw [hQ]; exact ⟨by rw [← nd_b (by omega)]; exact b2_f (by simp [c1, c2]), rfl⟩)
    · skip
      replace c2 := of_decide_eq_false c2
      refine Pv.lit rfl ?_
      refine Pv.goto rfl ?_
      exact Pv.zret rfl (by rw [hQ]; exact ⟨by rw [← nd_b (by omega)]; exact b2_t (by simp [c1, c2]), rfl⟩)
set_option maxRecDepth 100000 in
set_option maxHeartbeats 4000000 in
theorem o_isShore {F : FW} (x : Int32) : Pm Z_X10_isShore [.int x] F (fun r F' => r = some (.int (b2i (nd 2 x).isSome)) ∧ F' = F) := by
  refine Pm.of fun N => ?_
  obtain ⟨Q, hQ⟩ : ∃ Q : Option Value → FW → Prop, Q = (fun r F' => r = some (.int (b2i (nd 2 x).isSome)) ∧ F' = F) := ⟨_, rfl⟩
  rw [← hQ]
  refine (show Pv (ab_T L_X10_isShore) N 0 [some (.int x)] [] F Q from ?_)
  refine Pv.iload rfl rfl ?_
  refine Pv.if0 rfl (fun c1 => ?_) (fun c1 => ?_)
  · skip
    replace c1 := of_decide_eq_true c1
    refine Pv.lit rfl ?_
    refine Pv.goto rfl ?_
    exact Pv.zret rfl (by rw [hQ]; exact ⟨by rw [← nd_2]; exact b2_t (by simp [c1]), rfl⟩)
  · skip
    replace c1 := of_decide_eq_false c1
    refine Pv.iload rfl rfl ?_
    refine Pv.lit rfl ?_
    refine Pv.icmp rfl (fun c2 => ?_) (fun c2 => ?_)
    · skip
      replace c2 : decide (x = 1) = false := by simpa using c2
      replace c2 := of_decide_eq_false c2
      refine Pv.lit rfl ?_
      exact Pv.zret rfl (by rw [hQ]; exact ⟨by rw [← nd_2]; exact b2_f (by simp [c1, c2]), rfl⟩)
    · skip
      replace c2 : decide (x = 1) = true := by simpa using c2
      replace c2 := of_decide_eq_true c2
      refine Pv.lit rfl ?_
      refine Pv.goto rfl ?_
      exact Pv.zret rfl (by rw [hQ]; exact ⟨by rw [← nd_2]; exact b2_t (by simp [c1, c2]), rfl⟩)
set_option maxRecDepth 100000 in
set_option maxHeartbeats 4000000 in
theorem o_isSlot {F : FW} {t : Nat} {T : St} {S : Sh} (hG : GW F) (ht : F.2.1 0 13 = .ref t) (hT : TR F t T) (hS : SHR F 12 (t_m T) S) (j0 : t = 45 ∨ t = 53) (x y : Int32) : Pm Z_X10_isSlot [.ref 0, .int x, .int y] F (fun r F' => r = some (.int (b2i ((nd (t_g T) x).isSome && (nd 2 y).isSome))) ∧ F' = F) := by
  refine Pm.of fun N => ?_
  obtain ⟨Q, hQ⟩ : ∃ Q : Option Value → FW → Prop, Q = (fun r F' => r = some (.int (b2i ((nd (t_g T) x).isSome && (nd 2 y).isSome))) ∧ F' = F) := ⟨_, rfl⟩
  rw [← hQ]
  have b3 := hT.mb
  have b4 := hT.nb
  have b5 := hT.gb
  have b6 := m_from_lt S
  have b7 := hS.db
  refine (show Pv (ab_T (L_X10_isSlot Z_X10_isGood Z_X10_isShore)) N 0 [some (.ref 0), some (.int x), some (.int y)] [] F Q from ?_)
  refine Pv.aload rfl rfl ?_
  refine Pv.iload rfl rfl ?_
  refine Pv.callVI (as := [.ref 0, .int x]) (rest := []) (z := b2i (nd (t_g T) x).isSome) rfl rfl rfl (o_isGood hG ht hT hS j0 x) ?_
  refine Pv.if0 rfl (fun c1 => ?_) (fun c1 => ?_)
  · skip
    replace c1 := of_decide_eq_true c1
    replace c1 := b2z.mp c1
    refine Pv.lit rfl ?_
    exact Pv.zret rfl (by rw [hQ]; exact ⟨b2_f (by simp [c1]), rfl⟩)
  · skip
    replace c1 := of_decide_eq_false c1
    replace c1 := b2n.mp c1
    refine Pv.iload rfl rfl ?_
    refine Pv.callI (as := [.int y]) (rest := []) (z := b2i (nd 2 y).isSome) rfl rfl rfl (o_isShore y) ?_
    refine Pv.if0 rfl (fun c2 => ?_) (fun c2 => ?_)
    · skip
      replace c2 := of_decide_eq_true c2
      replace c2 := b2z.mp c2
      refine Pv.lit rfl ?_
      exact Pv.zret rfl (by rw [hQ]; exact ⟨b2_f (by simp [c1, c2]), rfl⟩)
    · skip
      replace c2 := of_decide_eq_false c2
      replace c2 := b2n.mp c2
      refine Pv.lit rfl ?_
      refine Pv.goto rfl ?_
      exact Pv.zret rfl (by rw [hQ]; exact ⟨b2_t (by simp [c1, c2]), rfl⟩)
set_option maxRecDepth 100000 in
set_option maxHeartbeats 4000000 in
theorem o_good {F : FW} {t : Nat} {T : St} {S : Sh} (hG : GW F) (ht : F.2.1 0 13 = .ref t) (hT : TR F t T) (hS : SHR F 12 (t_m T) S) (j0 : t = 45 ∨ t = 53) (x y w : Int32) : Pm Z_X10_good [.ref 0, .int x, .int y, .int w] F (fun r F' => r = some (.int (a_good T S x y w)) ∧ F' = F) := by
  refine Pm.of fun N => ?_
  obtain ⟨Q, hQ⟩ : ∃ Q : Option Value → FW → Prop, Q = (fun r F' => r = some (.int (a_good T S x y w)) ∧ F' = F) := ⟨_, rfl⟩
  rw [← hQ]
  have b3 := hT.mb
  have b4 := hT.nb
  have b5 := hT.gb
  have b6 := m_from_lt S
  have b7 := hS.db
  refine (show Pv (ab_T (L_X10_good Z_X10_isSlot Z_X10_slotOf Z_X7_amountOf Z_X6_lackAt Z_X6_isFalse)) N 0 [some (.ref 0), some (.int x), some (.int y), some (.int w), none] [] F Q from ?_)
  refine Pv.aload rfl rfl ?_
  refine Pv.iload rfl rfl ?_
  refine Pv.iload rfl rfl ?_
  refine Pv.callVI (as := [.ref 0, .int x, .int y]) (rest := []) (z := b2i ((nd (t_g T) x).isSome && (nd 2 y).isSome)) rfl rfl rfl (o_isSlot hG ht hT hS j0 x y) ?_
  refine Pv.if0 rfl (fun c1 => ?_) (fun c1 => ?_)
  · skip
    replace c1 : decide (b2i ((nd (t_g T) x).isSome && (nd 2 y).isSome) = 0) = false := by simpa using c1
    replace c1 := of_decide_eq_false c1
    replace c1 := b2n.mp c1
    obtain ⟨g, s, hg, hs, hgl, hsl, rfl, rfl⟩ := gs_t c1
    refine Pv.iload rfl rfl ?_
    refine Pv.iload rfl rfl ?_
    refine Pv.callI (as := [.int (Int32.ofNat g), .int (Int32.ofNat s)]) (rest := []) (z := Int32.ofNat (2 * g + s)) rfl rfl rfl (f_slotOf (g := g) (s := s)) ?_
    refine Pv.istore (lo' := [some (.ref 0), some (.int (Int32.ofNat g)), some (.int (Int32.ofNat s)), some (.int w), some (.int (Int32.ofNat (2 * g + s)))]) rfl rfl ?_
    refine Pv.iload rfl rfl ?_
    rcases nd_8 w with rfl | rfl | rfl | rfl | rfl | rfl | rfl | rfl | hw
    · refine Pv.tab (t := 64) rfl rfl ?_
      refine Pv.aload rfl rfl ?_
      refine Pv.getR (v := .ref 12) rfl rfl (GW.at (a := 0) (k := 4) (b := 12) hG (by decide)) ?_
      refine Pv.getR (v := .ref 13) rfl rfl (hS.o 0 (by decide)) ?_
      refine Pv.iload rfl rfl ?_
      refine Pv.ald (z := h_s S (2 * g + s)) rfl (by rw [i_toNat (by omega)]; exact hS.s _ (by omega)) ?_
      exact Pv.ret rfl (by rw [hQ]; exact ⟨by unfold a_good; rw [aGS_t hg hs]; try rfl, rfl⟩)
    · refine Pv.tab (t := 75) rfl rfl ?_
      refine Pv.aload rfl rfl ?_
      refine Pv.getR (v := .ref 12) rfl rfl (GW.at (a := 0) (k := 4) (b := 12) hG (by decide)) ?_
      refine Pv.getR (v := .ref 14) rfl rfl (hS.o 1 (by decide)) ?_
      refine Pv.iload rfl rfl ?_
      refine Pv.ald (z := h_h S (2 * g + s)) rfl (by rw [i_toNat (by omega)]; exact hS.h _ (by omega)) ?_
      exact Pv.ret rfl (by rw [hQ]; exact ⟨by unfold a_good; rw [aGS_t hg hs]; try rfl, rfl⟩)
    · refine Pv.tab (t := 86) rfl rfl ?_
      refine Pv.aload rfl rfl ?_
      refine Pv.getR (v := .ref t) rfl rfl (ht) ?_
      refine Pv.lit rfl ?_
      refine Pv.iload rfl rfl ?_
      refine Pv.callVI (as := [.ref t, .int 1, .int (Int32.ofNat (2 * g + s))]) (rest := []) (z := t_a T (1 * 12 + (2 * g + s))) rfl rfl rfl (f_amountOf (s := 1) (k := 2 * g + s) hT (by omega)) ?_
      exact Pv.ret rfl (by rw [hQ]; exact ⟨by unfold a_good; rw [aGS_t hg hs]; try rfl, rfl⟩)
    · refine Pv.tab (t := 97) rfl rfl ?_
      refine Pv.aload rfl rfl ?_
      refine Pv.getR (v := .ref t) rfl rfl (ht) ?_
      refine Pv.lit rfl ?_
      refine Pv.iload rfl rfl ?_
      refine Pv.callVI (as := [.ref t, .int 2, .int (Int32.ofNat (2 * g + s))]) (rest := []) (z := t_a T (2 * 12 + (2 * g + s))) rfl rfl rfl (f_amountOf (s := 2) (k := 2 * g + s) hT (by omega)) ?_
      exact Pv.ret rfl (by rw [hQ]; exact ⟨by unfold a_good; rw [aGS_t hg hs]; try rfl, rfl⟩)
    · refine Pv.tab (t := 108) rfl rfl ?_
      refine Pv.aload rfl rfl ?_
      refine Pv.getR (v := .ref t) rfl rfl (ht) ?_
      refine Pv.lit rfl ?_
      refine Pv.iload rfl rfl ?_
      refine Pv.callVI (as := [.ref t, .int 3, .int (Int32.ofNat (2 * g + s))]) (rest := []) (z := t_a T (3 * 12 + (2 * g + s))) rfl rfl rfl (f_amountOf (s := 3) (k := 2 * g + s) hT (by omega)) ?_
      exact Pv.ret rfl (by rw [hQ]; exact ⟨by unfold a_good; rw [aGS_t hg hs]; try rfl, rfl⟩)
    · refine Pv.tab (t := 119) rfl rfl ?_
      refine Pv.aload rfl rfl ?_
      refine Pv.getR (v := .ref 12) rfl rfl (GW.at (a := 0) (k := 4) (b := 12) hG (by decide)) ?_
      refine Pv.aload rfl rfl ?_
      refine Pv.getR (v := .ref t) rfl rfl (ht) ?_
      refine Pv.iload rfl rfl ?_
      refine Pv.callVI (as := [.ref 12, .ref t, .int (Int32.ofNat (2 * g + s))]) (rest := []) (z := m_lack T S (2 * g + s)) rfl rfl rfl (f_lackAt (k := 2 * g + s) hT hS (by omega)) ?_
      exact Pv.ret rfl (by rw [hQ]; exact ⟨by unfold a_good; rw [aGS_t hg hs]; try rfl, rfl⟩)
    · refine Pv.tab (t := 133) rfl rfl ?_
      refine Pv.aload rfl rfl ?_
      refine Pv.getR (v := .ref 12) rfl rfl (GW.at (a := 0) (k := 4) (b := 12) hG (by decide)) ?_
      refine Pv.aload rfl rfl ?_
      refine Pv.getR (v := .ref t) rfl rfl (ht) ?_
      refine Pv.iload rfl rfl ?_
      refine Pv.callVI (as := [.ref 12, .ref t, .int (Int32.ofNat (2 * g + s))]) (rest := []) (z := b2i (m_false T S (2 * g + s))) rfl rfl rfl (f_isFalse (k := 2 * g + s) hT hS (by omega)) ?_
      refine Pv.if0 rfl (fun c2 => ?_) (fun c2 => ?_)
      · skip
        replace c2 := of_decide_eq_true c2
        replace c2 := b2z.mp c2
        refine Pv.lit rfl ?_
        exact Pv.ret rfl (by rw [hQ]; exact ⟨by unfold a_good; rw [aGS_t hg hs]; exact b2_f c2, rfl⟩)
      · skip
        replace c2 := of_decide_eq_false c2
        replace c2 := b2n.mp c2
        refine Pv.lit rfl ?_
        refine Pv.goto rfl ?_
        exact Pv.ret rfl (by rw [hQ]; exact ⟨by unfold a_good; rw [aGS_t hg hs]; exact b2_t c2, rfl⟩)
    · refine Pv.tab (t := 155) rfl rfl ?_
      refine Pv.aload rfl rfl ?_
      refine Pv.getR (v := .ref 12) rfl rfl (GW.at (a := 0) (k := 4) (b := 12) hG (by decide)) ?_
      refine Pv.getR (v := .ref 15) rfl rfl (hS.o 2 (by decide)) ?_
      refine Pv.iload rfl rfl ?_
      refine Pv.ald (z := h_u S (2 * g + s)) rfl (by rw [i_toNat (by omega)]; exact hS.u _ (by omega)) ?_
      exact Pv.ret rfl (by rw [hQ]; exact ⟨by unfold a_good; rw [aGS_t hg hs]; try rfl, rfl⟩)
    · refine Pv.tab (t := 166) rfl (nd_tab hw (by decide)) ?_
      refine Pv.lit rfl ?_
      exact Pv.ret rfl (by rw [hQ]; exact ⟨by unfold a_good; rw [aGS_t hg hs, hw], rfl⟩)
  · skip
    replace c1 : decide (b2i ((nd (t_g T) x).isSome && (nd 2 y).isSome) = 0) = true := by simpa using c1
    replace c1 := of_decide_eq_true c1
    replace c1 := b2z.mp c1
    refine Pv.lit rfl ?_
    exact Pv.ret rfl (by rw [hQ]; exact ⟨by unfold a_good; rw [aGS_f c1], rfl⟩)
set_option maxRecDepth 100000 in
set_option maxHeartbeats 4000000 in
theorem o_crossed {F : FW} {t : Nat} {T : St} {S : Sh} (hG : GW F) (ht : F.2.1 0 13 = .ref t) (hT : TR F t T) (hS : SHR F 12 (t_m T) S) (j0 : t = 45 ∨ t = 53) (x y : Int32) : Pm Z_X10_crossed [.ref 0, .int x, .int y] F (fun r F' => r = some (.int (a_crossed T S x y)) ∧ F' = F) := by
  refine Pm.of fun N => ?_
  obtain ⟨Q, hQ⟩ : ∃ Q : Option Value → FW → Prop, Q = (fun r F' => r = some (.int (a_crossed T S x y)) ∧ F' = F) := ⟨_, rfl⟩
  rw [← hQ]
  have b3 := hT.mb
  have b4 := hT.nb
  have b5 := hT.gb
  have b6 := m_from_lt S
  have b7 := hS.db
  refine (show Pv (ab_T (L_X10_crossed Z_X10_isSlot Z_X10_slotOf)) N 0 [some (.ref 0), some (.int x), some (.int y)] [] F Q from ?_)
  refine Pv.aload rfl rfl ?_
  refine Pv.iload rfl rfl ?_
  refine Pv.iload rfl rfl ?_
  refine Pv.callVI (as := [.ref 0, .int x, .int y]) (rest := []) (z := b2i ((nd (t_g T) x).isSome && (nd 2 y).isSome)) rfl rfl rfl (o_isSlot hG ht hT hS j0 x y) ?_
  refine Pv.if0 rfl (fun c1 => ?_) (fun c1 => ?_)
  · skip
    replace c1 := of_decide_eq_true c1
    replace c1 := b2z.mp c1
    refine Pv.lit rfl ?_
    exact Pv.ret rfl (by rw [hQ]; exact ⟨by unfold a_crossed; rw [aGS_f c1], rfl⟩)
  · skip
    replace c1 := of_decide_eq_false c1
    replace c1 := b2n.mp c1
    obtain ⟨g, s, hg, hs, hgl, hsl, rfl, rfl⟩ := gs_t c1
    refine Pv.aload rfl rfl ?_
    refine Pv.getR (v := .ref 12) rfl rfl (GW.at (a := 0) (k := 4) (b := 12) hG (by decide)) ?_
    refine Pv.getR (v := .ref 16) rfl rfl (hS.o 3 (by decide)) ?_
    refine Pv.iload rfl rfl ?_
    refine Pv.iload rfl rfl ?_
    refine Pv.callI (as := [.int (Int32.ofNat g), .int (Int32.ofNat s)]) (rest := [.ref 16]) (z := Int32.ofNat (2 * g + s)) rfl rfl rfl (f_slotOf (g := g) (s := s)) ?_
    refine Pv.ald (z := h_c S (2 * g + s)) rfl (by rw [i_toNat (by omega)]; exact hS.c _ (by omega)) ?_
    refine Pv.goto rfl ?_
    exact Pv.ret rfl (by rw [hQ]; exact ⟨by unfold a_crossed; rw [aGS_t hg hs]; try rfl, rfl⟩)
set_option maxRecDepth 100000 in
set_option maxHeartbeats 4000000 in
theorem o_lacks {F : FW} {t : Nat} {T : St} {S : Sh} (hG : GW F) (ht : F.2.1 0 13 = .ref t) (hT : TR F t T) (hS : SHR F 12 (t_m T) S) (j0 : t = 45 ∨ t = 53) (y : Int32) : Pm Z_X10_lacks [.ref 0, .int y] F (fun r F' => r = some (.int (a_lacks T S y)) ∧ F' = F) := by
  refine Pm.of fun N => ?_
  obtain ⟨Q, hQ⟩ : ∃ Q : Option Value → FW → Prop, Q = (fun r F' => r = some (.int (a_lacks T S y)) ∧ F' = F) := ⟨_, rfl⟩
  rw [← hQ]
  have b3 := hT.mb
  have b4 := hT.nb
  have b5 := hT.gb
  have b6 := m_from_lt S
  have b7 := hS.db
  refine (show Pv (ab_T (L_X10_lacks Z_X10_isShore Z_X10_slotOf Z_X6_lackAt)) N 0 [some (.ref 0), some (.int y), none, none] [] F Q from ?_)
  refine Pv.iload rfl rfl ?_
  refine Pv.callI (as := [.int y]) (rest := []) (z := b2i (nd 2 y).isSome) rfl rfl rfl (o_isShore y) ?_
  refine Pv.if0 rfl (fun c1 => ?_) (fun c1 => ?_)
  · skip
    replace c1 : decide (b2i (nd 2 y).isSome = 0) = false := by simpa using c1
    replace c1 := of_decide_eq_false c1
    replace c1 := b2n.mp c1
    obtain ⟨s, hs, hsl, rfl⟩ := nd_t c1
    refine Pv.lit rfl ?_
    refine Pv.istore (lo' := [some (.ref 0), some (.int (Int32.ofNat s)), some (.int 0), none]) rfl rfl ?_
    refine Pv.lit rfl ?_
    refine Pv.istore (lo' := [some (.ref 0), some (.int (Int32.ofNat s)), some (.int 0), some (.int 0)]) rfl rfl ?_
    refine Pv.lp (ι := Nat × Int32) (lof := fun ⟨k, b⟩ => [some (.ref 0), some (.int (Int32.ofNat s)), some (.int b), some (.int (Int32.ofNat k))]) (Ff := fun ⟨k, b⟩ => F) (P := fun ⟨k, b⟩ => k ≤ t_g T ∧ b = m_bits (fun g => !decide (m_lack T S (2 * g + s) ≤ 0)) id k) ?_ (0, 0) (⟨Nat.zero_le _, rfl⟩)
    rintro N2 hN3 ⟨k, b⟩ hi4 ih5
    refine (show Pv _ _ 13 [some (.ref 0), some (.int (Int32.ofNat s)), some (.int b), some (.int (Int32.ofNat k))] [] F Q from ?_)
    obtain ⟨hk, hb⟩ := hi4
    refine Pv.iloadS rfl rfl ?_
    refine Pv.aload rfl rfl ?_
    refine Pv.getR (v := .ref t) rfl rfl (ht) ?_
    refine Pv.getI (z := Int32.ofNat (t_g T)) rfl rfl (hT.g) ?_
    refine Pv.icmp rfl (fun c6 => ?_) (fun c6 => ?_)
    · skip
      replace c6 := (i_le (a := t_g T) (b := k) (by omega) (by omega)).mp (of_decide_eq_true c6)
      refine Pv.iload rfl rfl ?_
      exact Pv.ret rfl (by rw [hQ]; exact ⟨by unfold a_lacks; rw [hs]; dsimp only; rw [hb, show k = t_g T by omega], rfl⟩)
    · skip
      replace c6 := mt (i_le (a := t_g T) (b := k) (by omega) (by omega)).mpr (of_decide_eq_false c6)
      refine Pv.aload rfl rfl ?_
      refine Pv.getR (v := .ref 12) rfl rfl (GW.at (a := 0) (k := 4) (b := 12) hG (by decide)) ?_
      refine Pv.aload rfl rfl ?_
      refine Pv.getR (v := .ref t) rfl rfl (ht) ?_
      refine Pv.iload rfl rfl ?_
      refine Pv.iload rfl rfl ?_
      refine Pv.callI (as := [.int (Int32.ofNat k), .int (Int32.ofNat s)]) (rest := [.ref t, .ref 12]) (z := Int32.ofNat (2 * k + s)) rfl rfl rfl (f_slotOf (g := k) (s := s)) ?_
      refine Pv.callVI (as := [.ref 12, .ref t, .int (Int32.ofNat (2 * k + s))]) (rest := []) (z := m_lack T S (2 * k + s)) rfl rfl rfl (f_lackAt (k := 2 * k + s) hT hS (by omega)) ?_
      refine Pv.if0 rfl (fun c7 => ?_) (fun c7 => ?_)
      · skip
        replace c7 := of_decide_eq_true c7
        refine Pv.iinc (y := Int32.ofNat (k + 1)) (lo' := [some (.ref 0), some (.int (Int32.ofNat s)), some (.int b), some (.int (Int32.ofNat (k + 1)))]) rfl rfl (i_add k 1) rfl ?_
        refine Pv.goto rfl ?_
        exact ih5 (k + 1, b) (⟨by omega, hb.trans (m_bits_f (by simp [c1, c6, c7])).symm⟩)
      · skip
        replace c7 := of_decide_eq_false c7
        refine Pv.iload rfl rfl ?_
        refine Pv.lit rfl ?_
        refine Pv.iload rfl rfl ?_
        refine Pv.bin (z := 1 <<< ((Int32.ofNat k) &&& 31)) rfl (rfl) ?_
        refine Pv.bin (z := b ||| (1 <<< ((Int32.ofNat k) &&& 31))) rfl (rfl) ?_
        refine Pv.istore (lo' := [some (.ref 0), some (.int (Int32.ofNat s)), some (.int (b ||| (1 <<< ((Int32.ofNat k) &&& 31)))), some (.int (Int32.ofNat k))]) rfl rfl ?_
        refine Pv.iinc (y := Int32.ofNat (k + 1)) (lo' := [some (.ref 0), some (.int (Int32.ofNat s)), some (.int (b ||| (1 <<< ((Int32.ofNat k) &&& 31)))), some (.int (Int32.ofNat (k + 1)))]) rfl rfl (i_add k 1) rfl ?_
        refine Pv.goto rfl ?_
        exact ih5 (k + 1, b ||| (1 <<< ((Int32.ofNat k) &&& 31))) (⟨by omega, by rw [m_bits_t (f := (fun g => !decide (m_lack T S (2 * g + s) ≤ 0))) (g := id) (k := k) (by simp [c1, c6, c7]), hb]; try rfl⟩)
  · skip
    replace c1 : decide (b2i (nd 2 y).isSome = 0) = true := by simpa using c1
    replace c1 := of_decide_eq_true c1
    replace c1 := b2z.mp c1
    refine Pv.lit rfl ?_
    exact Pv.ret rfl (by rw [hQ]; exact ⟨by unfold a_lacks; rw [nd_f c1], rfl⟩)
set_option maxRecDepth 100000 in
set_option maxHeartbeats 4000000 in
theorem o_falses {F : FW} {t : Nat} {T : St} {S : Sh} (hG : GW F) (ht : F.2.1 0 13 = .ref t) (hT : TR F t T) (hS : SHR F 12 (t_m T) S) (j0 : t = 45 ∨ t = 53) (y : Int32) : Pm Z_X10_falses [.ref 0, .int y] F (fun r F' => r = some (.int (a_falses T S y)) ∧ F' = F) := by
  refine Pm.of fun N => ?_
  obtain ⟨Q, hQ⟩ : ∃ Q : Option Value → FW → Prop, Q = (fun r F' => r = some (.int (a_falses T S y)) ∧ F' = F) := ⟨_, rfl⟩
  rw [← hQ]
  have b3 := hT.mb
  have b4 := hT.nb
  have b5 := hT.gb
  have b6 := m_from_lt S
  have b7 := hS.db
  refine (show Pv (ab_T (L_X10_falses Z_X10_isShore Z_X10_slotOf Z_X6_isFalse)) N 0 [some (.ref 0), some (.int y), none, none] [] F Q from ?_)
  refine Pv.iload rfl rfl ?_
  refine Pv.callI (as := [.int y]) (rest := []) (z := b2i (nd 2 y).isSome) rfl rfl rfl (o_isShore y) ?_
  refine Pv.if0 rfl (fun c1 => ?_) (fun c1 => ?_)
  · skip
    replace c1 : decide (b2i (nd 2 y).isSome = 0) = false := by simpa using c1
    replace c1 := of_decide_eq_false c1
    replace c1 := b2n.mp c1
    obtain ⟨s, hs, hsl, rfl⟩ := nd_t c1
    refine Pv.lit rfl ?_
    refine Pv.istore (lo' := [some (.ref 0), some (.int (Int32.ofNat s)), some (.int 0), none]) rfl rfl ?_
    refine Pv.lit rfl ?_
    refine Pv.istore (lo' := [some (.ref 0), some (.int (Int32.ofNat s)), some (.int 0), some (.int 0)]) rfl rfl ?_
    refine Pv.lp (ι := Nat × Int32) (lof := fun ⟨k, b⟩ => [some (.ref 0), some (.int (Int32.ofNat s)), some (.int b), some (.int (Int32.ofNat k))]) (Ff := fun ⟨k, b⟩ => F) (P := fun ⟨k, b⟩ => k ≤ t_g T ∧ b = m_bits (fun g => m_false T S (2 * g + s)) id k) ?_ (0, 0) (⟨Nat.zero_le _, rfl⟩)
    rintro N2 hN3 ⟨k, b⟩ hi4 ih5
    refine (show Pv _ _ 13 [some (.ref 0), some (.int (Int32.ofNat s)), some (.int b), some (.int (Int32.ofNat k))] [] F Q from ?_)
    obtain ⟨hk, hb⟩ := hi4
    refine Pv.iloadS rfl rfl ?_
    refine Pv.aload rfl rfl ?_
    refine Pv.getR (v := .ref t) rfl rfl (ht) ?_
    refine Pv.getI (z := Int32.ofNat (t_g T)) rfl rfl (hT.g) ?_
    refine Pv.icmp rfl (fun c6 => ?_) (fun c6 => ?_)
    · skip
      replace c6 := (i_le (a := t_g T) (b := k) (by omega) (by omega)).mp (of_decide_eq_true c6)
      refine Pv.iload rfl rfl ?_
      exact Pv.ret rfl (by rw [hQ]; exact ⟨by unfold a_falses; rw [hs]; dsimp only; rw [hb, show k = t_g T by omega], rfl⟩)
    · skip
      replace c6 := mt (i_le (a := t_g T) (b := k) (by omega) (by omega)).mpr (of_decide_eq_false c6)
      refine Pv.aload rfl rfl ?_
      refine Pv.getR (v := .ref 12) rfl rfl (GW.at (a := 0) (k := 4) (b := 12) hG (by decide)) ?_
      refine Pv.aload rfl rfl ?_
      refine Pv.getR (v := .ref t) rfl rfl (ht) ?_
      refine Pv.iload rfl rfl ?_
      refine Pv.iload rfl rfl ?_
      refine Pv.callI (as := [.int (Int32.ofNat k), .int (Int32.ofNat s)]) (rest := [.ref t, .ref 12]) (z := Int32.ofNat (2 * k + s)) rfl rfl rfl (f_slotOf (g := k) (s := s)) ?_
      refine Pv.callVI (as := [.ref 12, .ref t, .int (Int32.ofNat (2 * k + s))]) (rest := []) (z := b2i (m_false T S (2 * k + s))) rfl rfl rfl (f_isFalse (k := 2 * k + s) hT hS (by omega)) ?_
      refine Pv.if0 rfl (fun c7 => ?_) (fun c7 => ?_)
      · skip
        replace c7 := of_decide_eq_true c7
        replace c7 := b2z.mp c7
        refine Pv.iinc (y := Int32.ofNat (k + 1)) (lo' := [some (.ref 0), some (.int (Int32.ofNat s)), some (.int b), some (.int (Int32.ofNat (k + 1)))]) rfl rfl (i_add k 1) rfl ?_
        refine Pv.goto rfl ?_
        exact ih5 (k + 1, b) (⟨by omega, hb.trans (m_bits_f (by simp [c1, c6, c7])).symm⟩)
      · skip
        replace c7 := of_decide_eq_false c7
        replace c7 := b2n.mp c7
        refine Pv.iload rfl rfl ?_
        refine Pv.lit rfl ?_
        refine Pv.iload rfl rfl ?_
        refine Pv.bin (z := 1 <<< ((Int32.ofNat k) &&& 31)) rfl (rfl) ?_
        refine Pv.bin (z := b ||| (1 <<< ((Int32.ofNat k) &&& 31))) rfl (rfl) ?_
        refine Pv.istore (lo' := [some (.ref 0), some (.int (Int32.ofNat s)), some (.int (b ||| (1 <<< ((Int32.ofNat k) &&& 31)))), some (.int (Int32.ofNat k))]) rfl rfl ?_
        refine Pv.iinc (y := Int32.ofNat (k + 1)) (lo' := [some (.ref 0), some (.int (Int32.ofNat s)), some (.int (b ||| (1 <<< ((Int32.ofNat k) &&& 31)))), some (.int (Int32.ofNat (k + 1)))]) rfl rfl (i_add k 1) rfl ?_
        refine Pv.goto rfl ?_
        exact ih5 (k + 1, b ||| (1 <<< ((Int32.ofNat k) &&& 31))) (⟨by omega, by rw [m_bits_t (f := (fun g => m_false T S (2 * g + s))) (g := id) (k := k) (by simp [c1, c6, c7]), hb]; try rfl⟩)
  · skip
    replace c1 : decide (b2i (nd 2 y).isSome = 0) = true := by simpa using c1
    replace c1 := of_decide_eq_true c1
    replace c1 := b2z.mp c1
    refine Pv.lit rfl ?_
    exact Pv.ret rfl (by rw [hQ]; exact ⟨by unfold a_falses; rw [nd_f c1], rfl⟩)
set_option maxRecDepth 100000 in
set_option maxHeartbeats 4000000 in
theorem o_hoarded {F : FW} {t : Nat} {T : St} {S : Sh} (hG : GW F) (ht : F.2.1 0 13 = .ref t) (hT : TR F t T) (hS : SHR F 12 (t_m T) S) (j0 : t = 45 ∨ t = 53) (y : Int32) : Pm Z_X10_hoarded [.ref 0, .int y] F (fun r F' => r = some (.int (a_hoarded T S y)) ∧ F' = F) := by
  refine Pm.of fun N => ?_
  obtain ⟨Q, hQ⟩ : ∃ Q : Option Value → FW → Prop, Q = (fun r F' => r = some (.int (a_hoarded T S y)) ∧ F' = F) := ⟨_, rfl⟩
  rw [← hQ]
  have b3 := hT.mb
  have b4 := hT.nb
  have b5 := hT.gb
  have b6 := m_from_lt S
  have b7 := hS.db
  refine (show Pv (ab_T (L_X10_hoarded Z_X10_isShore Z_X10_slotOf)) N 0 [some (.ref 0), some (.int y), none, none, none, none] [] F Q from ?_)
  refine Pv.iload rfl rfl ?_
  refine Pv.callI (as := [.int y]) (rest := []) (z := b2i (nd 2 y).isSome) rfl rfl rfl (o_isShore y) ?_
  refine Pv.if0 rfl (fun c1 => ?_) (fun c1 => ?_)
  · skip
    replace c1 : decide (b2i (nd 2 y).isSome = 0) = false := by simpa using c1
    replace c1 := of_decide_eq_false c1
    replace c1 := b2n.mp c1
    obtain ⟨s, hs, hsl, rfl⟩ := nd_t c1
    refine Pv.lit rfl ?_
    refine Pv.istore (lo' := [some (.ref 0), some (.int (Int32.ofNat s)), some (.int 0), none, none, none]) rfl rfl ?_
    refine Pv.lit rfl ?_
    refine Pv.istore (lo' := [some (.ref 0), some (.int (Int32.ofNat s)), some (.int 0), some (.int (-1)), none, none]) rfl rfl ?_
    refine Pv.lit rfl ?_
    refine Pv.istore (lo' := [some (.ref 0), some (.int (Int32.ofNat s)), some (.int 0), some (.int (-1)), some (.int 0), none]) rfl rfl ?_
    refine Pv.lp (ι := Nat × Int32 × Int32 × (Option Value)) (lof := fun ⟨k, b, e, o2⟩ => [some (.ref 0), some (.int (Int32.ofNat s)), some (.int b), some (.int e), some (.int (Int32.ofNat k)), o2]) (Ff := fun ⟨k, b, e, o2⟩ => F) (P := fun ⟨k, b, e, o2⟩ => k ≤ t_g T ∧ (b, e) = m_top (fun g => h_h S (2 * g + s)) k) ?_ (0, 0, (-1), none) (⟨Nat.zero_le _, rfl⟩)
    rintro N3 hN4 ⟨k, b, e, o2⟩ hi5 ih6
    refine (show Pv _ _ 16 [some (.ref 0), some (.int (Int32.ofNat s)), some (.int b), some (.int e), some (.int (Int32.ofNat k)), o2] [] F Q from ?_)
    obtain ⟨hk, hb⟩ := hi5
    refine Pv.iloadS rfl rfl ?_
    refine Pv.aload rfl rfl ?_
    refine Pv.getR (v := .ref t) rfl rfl (ht) ?_
    refine Pv.getI (z := Int32.ofNat (t_g T)) rfl rfl (hT.g) ?_
    refine Pv.icmp rfl (fun c7 => ?_) (fun c7 => ?_)
    · skip
      replace c7 := (i_le (a := t_g T) (b := k) (by omega) (by omega)).mp (of_decide_eq_true c7)
      refine Pv.iload rfl rfl ?_
      exact Pv.ret rfl (by rw [hQ]; exact ⟨by unfold a_hoarded; rw [hs]; dsimp only; rw [show t_g T = k by omega, ← hb], rfl⟩)
    · skip
      replace c7 := mt (i_le (a := t_g T) (b := k) (by omega) (by omega)).mpr (of_decide_eq_false c7)
      refine Pv.aload rfl rfl ?_
      refine Pv.getR (v := .ref 12) rfl rfl (GW.at (a := 0) (k := 4) (b := 12) hG (by decide)) ?_
      refine Pv.getR (v := .ref 14) rfl rfl (hS.o 1 (by decide)) ?_
      refine Pv.iload rfl rfl ?_
      refine Pv.iload rfl rfl ?_
      refine Pv.callI (as := [.int (Int32.ofNat k), .int (Int32.ofNat s)]) (rest := [.ref 14]) (z := Int32.ofNat (2 * k + s)) rfl rfl rfl (f_slotOf (g := k) (s := s)) ?_
      refine Pv.ald (z := h_h S (2 * k + s)) rfl (by rw [i_toNat (by omega)]; exact hS.h _ (by omega)) ?_
      refine Pv.istore (lo' := [some (.ref 0), some (.int (Int32.ofNat s)), some (.int b), some (.int e), some (.int (Int32.ofNat k)), some (.int (h_h S (2 * k + s)))]) rfl rfl ?_
      refine Pv.iload rfl rfl ?_
      refine Pv.iload rfl rfl ?_
      refine Pv.icmp rfl (fun c8 => ?_) (fun c8 => ?_)
      · skip
        replace c8 := of_decide_eq_true c8
        refine Pv.iinc (y := Int32.ofNat (k + 1)) (lo' := [some (.ref 0), some (.int (Int32.ofNat s)), some (.int b), some (.int e), some (.int (Int32.ofNat (k + 1))), some (.int (h_h S (2 * k + s)))]) rfl rfl (i_add k 1) rfl ?_
        refine Pv.goto rfl ?_
        exact ih6 (k + 1, b, e, (some (.int (h_h S (2 * k + s))))) (⟨by omega, by show _ = (if _ then _ else _ : Int32 × Int32); rw [if_pos (by rw [← hb]; exact c8)]; exact hb⟩)
      · skip
        replace c8 := of_decide_eq_false c8
        refine Pv.iload rfl rfl ?_
        refine Pv.istore (lo' := [some (.ref 0), some (.int (Int32.ofNat s)), some (.int (h_h S (2 * k + s))), some (.int e), some (.int (Int32.ofNat k)), some (.int (h_h S (2 * k + s)))]) rfl rfl ?_
        refine Pv.iload rfl rfl ?_
        refine Pv.istore (lo' := [some (.ref 0), some (.int (Int32.ofNat s)), some (.int (h_h S (2 * k + s))), some (.int (Int32.ofNat k)), some (.int (Int32.ofNat k)), some (.int (h_h S (2 * k + s)))]) rfl rfl ?_
        refine Pv.iinc (y := Int32.ofNat (k + 1)) (lo' := [some (.ref 0), some (.int (Int32.ofNat s)), some (.int (h_h S (2 * k + s))), some (.int (Int32.ofNat k)), some (.int (Int32.ofNat (k + 1))), some (.int (h_h S (2 * k + s)))]) rfl rfl (i_add k 1) rfl ?_
        refine Pv.goto rfl ?_
        exact ih6 (k + 1, h_h S (2 * k + s), Int32.ofNat k, (some (.int (h_h S (2 * k + s))))) (⟨by omega, by show _ = (if _ then _ else _ : Int32 × Int32); rw [if_neg (by rw [← hb]; exact c8)]⟩)
  · skip
    replace c1 : decide (b2i (nd 2 y).isSome = 0) = true := by simpa using c1
    replace c1 := of_decide_eq_true c1
    replace c1 := b2z.mp c1
    refine Pv.lit rfl ?_
    exact Pv.ret rfl (by rw [hQ]; exact ⟨by unfold a_hoarded; rw [nd_f c1], rfl⟩)
set_option maxRecDepth 100000 in
set_option maxHeartbeats 4000000 in
theorem f_bitCount {F : FW} (x : Int32) : Pm Z_J6_bitCount_0f7a4 [.int x] F (fun r F' => r = some (.int (jbc x)) ∧ F' = F) := by
  refine Pm.of fun N => ?_
  obtain ⟨Q, hQ⟩ : ∃ Q : Option Value → FW → Prop, Q = (fun r F' => r = some (.int (jbc x)) ∧ F' = F) := ⟨_, rfl⟩
  rw [← hQ]
  refine (show Pv (ab_T L_J6_bitCount_0f7a4) N 0 [some (.int x)] [] F Q from ?_)
  refine Pv.iload rfl rfl ?_
  refine Pv.iload rfl rfl ?_
  refine Pv.lit rfl ?_
  refine Pv.bin (z := ((x : Int32).toUInt32 >>> ((1 : Int32).toUInt32 &&& Int32.toUInt32 31)).toInt32) rfl (rfl) ?_
  refine Pv.lit rfl ?_
  refine Pv.bin (z := (((x : Int32).toUInt32 >>> ((1 : Int32).toUInt32 &&& Int32.toUInt32 31)).toInt32) &&& 1431655765) rfl (rfl) ?_
  refine Pv.bin (z := x - ((((x : Int32).toUInt32 >>> ((1 : Int32).toUInt32 &&& Int32.toUInt32 31)).toInt32) &&& 1431655765)) rfl (rfl) ?_
  refine Pv.istore (lo' := [some (.int (x - ((((x : Int32).toUInt32 >>> ((1 : Int32).toUInt32 &&& Int32.toUInt32 31)).toInt32) &&& 1431655765)))]) rfl rfl ?_
  refine Pv.iload rfl rfl ?_
  refine Pv.lit rfl ?_
  refine Pv.bin (z := (x - ((((x : Int32).toUInt32 >>> ((1 : Int32).toUInt32 &&& Int32.toUInt32 31)).toInt32) &&& 1431655765)) &&& 858993459) rfl (rfl) ?_
  refine Pv.iload rfl rfl ?_
  refine Pv.lit rfl ?_
  refine Pv.bin (z := (((x - ((((x : Int32).toUInt32 >>> ((1 : Int32).toUInt32 &&& Int32.toUInt32 31)).toInt32) &&& 1431655765)) : Int32).toUInt32 >>> ((2 : Int32).toUInt32 &&& Int32.toUInt32 31)).toInt32) rfl (rfl) ?_
  refine Pv.lit rfl ?_
  refine Pv.bin (z := ((((x - ((((x : Int32).toUInt32 >>> ((1 : Int32).toUInt32 &&& Int32.toUInt32 31)).toInt32) &&& 1431655765)) : Int32).toUInt32 >>> ((2 : Int32).toUInt32 &&& Int32.toUInt32 31)).toInt32) &&& 858993459) rfl (rfl) ?_
  refine Pv.bin (z := ((x - ((((x : Int32).toUInt32 >>> ((1 : Int32).toUInt32 &&& Int32.toUInt32 31)).toInt32) &&& 1431655765)) &&& 858993459) + (((((x - ((((x : Int32).toUInt32 >>> ((1 : Int32).toUInt32 &&& Int32.toUInt32 31)).toInt32) &&& 1431655765)) : Int32).toUInt32 >>> ((2 : Int32).toUInt32 &&& Int32.toUInt32 31)).toInt32) &&& 858993459)) rfl (rfl) ?_
  refine Pv.istore (lo' := [some (.int (((x - ((((x : Int32).toUInt32 >>> ((1 : Int32).toUInt32 &&& Int32.toUInt32 31)).toInt32) &&& 1431655765)) &&& 858993459) + (((((x - ((((x : Int32).toUInt32 >>> ((1 : Int32).toUInt32 &&& Int32.toUInt32 31)).toInt32) &&& 1431655765)) : Int32).toUInt32 >>> ((2 : Int32).toUInt32 &&& Int32.toUInt32 31)).toInt32) &&& 858993459)))]) rfl rfl ?_
  refine Pv.iload rfl rfl ?_
  refine Pv.iload rfl rfl ?_
  refine Pv.lit rfl ?_
  refine Pv.bin (z := (((((x - ((((x : Int32).toUInt32 >>> ((1 : Int32).toUInt32 &&& Int32.toUInt32 31)).toInt32) &&& 1431655765)) &&& 858993459) + (((((x - ((((x : Int32).toUInt32 >>> ((1 : Int32).toUInt32 &&& Int32.toUInt32 31)).toInt32) &&& 1431655765)) : Int32).toUInt32 >>> ((2 : Int32).toUInt32 &&& Int32.toUInt32 31)).toInt32) &&& 858993459)) : Int32).toUInt32 >>> ((4 : Int32).toUInt32 &&& Int32.toUInt32 31)).toInt32) rfl (rfl) ?_
  refine Pv.bin (z := (((x - ((((x : Int32).toUInt32 >>> ((1 : Int32).toUInt32 &&& Int32.toUInt32 31)).toInt32) &&& 1431655765)) &&& 858993459) + (((((x - ((((x : Int32).toUInt32 >>> ((1 : Int32).toUInt32 &&& Int32.toUInt32 31)).toInt32) &&& 1431655765)) : Int32).toUInt32 >>> ((2 : Int32).toUInt32 &&& Int32.toUInt32 31)).toInt32) &&& 858993459)) + ((((((x - ((((x : Int32).toUInt32 >>> ((1 : Int32).toUInt32 &&& Int32.toUInt32 31)).toInt32) &&& 1431655765)) &&& 858993459) + (((((x - ((((x : Int32).toUInt32 >>> ((1 : Int32).toUInt32 &&& Int32.toUInt32 31)).toInt32) &&& 1431655765)) : Int32).toUInt32 >>> ((2 : Int32).toUInt32 &&& Int32.toUInt32 31)).toInt32) &&& 858993459)) : Int32).toUInt32 >>> ((4 : Int32).toUInt32 &&& Int32.toUInt32 31)).toInt32)) rfl (rfl) ?_
  refine Pv.lit rfl ?_
  refine Pv.bin (z := ((((x - ((((x : Int32).toUInt32 >>> ((1 : Int32).toUInt32 &&& Int32.toUInt32 31)).toInt32) &&& 1431655765)) &&& 858993459) + (((((x - ((((x : Int32).toUInt32 >>> ((1 : Int32).toUInt32 &&& Int32.toUInt32 31)).toInt32) &&& 1431655765)) : Int32).toUInt32 >>> ((2 : Int32).toUInt32 &&& Int32.toUInt32 31)).toInt32) &&& 858993459)) + ((((((x - ((((x : Int32).toUInt32 >>> ((1 : Int32).toUInt32 &&& Int32.toUInt32 31)).toInt32) &&& 1431655765)) &&& 858993459) + (((((x - ((((x : Int32).toUInt32 >>> ((1 : Int32).toUInt32 &&& Int32.toUInt32 31)).toInt32) &&& 1431655765)) : Int32).toUInt32 >>> ((2 : Int32).toUInt32 &&& Int32.toUInt32 31)).toInt32) &&& 858993459)) : Int32).toUInt32 >>> ((4 : Int32).toUInt32 &&& Int32.toUInt32 31)).toInt32)) &&& 252645135) rfl (rfl) ?_
  refine Pv.istore (lo' := [some (.int (((((x - ((((x : Int32).toUInt32 >>> ((1 : Int32).toUInt32 &&& Int32.toUInt32 31)).toInt32) &&& 1431655765)) &&& 858993459) + (((((x - ((((x : Int32).toUInt32 >>> ((1 : Int32).toUInt32 &&& Int32.toUInt32 31)).toInt32) &&& 1431655765)) : Int32).toUInt32 >>> ((2 : Int32).toUInt32 &&& Int32.toUInt32 31)).toInt32) &&& 858993459)) + ((((((x - ((((x : Int32).toUInt32 >>> ((1 : Int32).toUInt32 &&& Int32.toUInt32 31)).toInt32) &&& 1431655765)) &&& 858993459) + (((((x - ((((x : Int32).toUInt32 >>> ((1 : Int32).toUInt32 &&& Int32.toUInt32 31)).toInt32) &&& 1431655765)) : Int32).toUInt32 >>> ((2 : Int32).toUInt32 &&& Int32.toUInt32 31)).toInt32) &&& 858993459)) : Int32).toUInt32 >>> ((4 : Int32).toUInt32 &&& Int32.toUInt32 31)).toInt32)) &&& 252645135))]) rfl rfl ?_
  refine Pv.iload rfl rfl ?_
  refine Pv.iload rfl rfl ?_
  refine Pv.lit rfl ?_
  refine Pv.bin (z := (((((((x - ((((x : Int32).toUInt32 >>> ((1 : Int32).toUInt32 &&& Int32.toUInt32 31)).toInt32) &&& 1431655765)) &&& 858993459) + (((((x - ((((x : Int32).toUInt32 >>> ((1 : Int32).toUInt32 &&& Int32.toUInt32 31)).toInt32) &&& 1431655765)) : Int32).toUInt32 >>> ((2 : Int32).toUInt32 &&& Int32.toUInt32 31)).toInt32) &&& 858993459)) + ((((((x - ((((x : Int32).toUInt32 >>> ((1 : Int32).toUInt32 &&& Int32.toUInt32 31)).toInt32) &&& 1431655765)) &&& 858993459) + (((((x - ((((x : Int32).toUInt32 >>> ((1 : Int32).toUInt32 &&& Int32.toUInt32 31)).toInt32) &&& 1431655765)) : Int32).toUInt32 >>> ((2 : Int32).toUInt32 &&& Int32.toUInt32 31)).toInt32) &&& 858993459)) : Int32).toUInt32 >>> ((4 : Int32).toUInt32 &&& Int32.toUInt32 31)).toInt32)) &&& 252645135) : Int32).toUInt32 >>> ((8 : Int32).toUInt32 &&& Int32.toUInt32 31)).toInt32) rfl (rfl) ?_
  refine Pv.bin (z := (((((x - ((((x : Int32).toUInt32 >>> ((1 : Int32).toUInt32 &&& Int32.toUInt32 31)).toInt32) &&& 1431655765)) &&& 858993459) + (((((x - ((((x : Int32).toUInt32 >>> ((1 : Int32).toUInt32 &&& Int32.toUInt32 31)).toInt32) &&& 1431655765)) : Int32).toUInt32 >>> ((2 : Int32).toUInt32 &&& Int32.toUInt32 31)).toInt32) &&& 858993459)) + ((((((x - ((((x : Int32).toUInt32 >>> ((1 : Int32).toUInt32 &&& Int32.toUInt32 31)).toInt32) &&& 1431655765)) &&& 858993459) + (((((x - ((((x : Int32).toUInt32 >>> ((1 : Int32).toUInt32 &&& Int32.toUInt32 31)).toInt32) &&& 1431655765)) : Int32).toUInt32 >>> ((2 : Int32).toUInt32 &&& Int32.toUInt32 31)).toInt32) &&& 858993459)) : Int32).toUInt32 >>> ((4 : Int32).toUInt32 &&& Int32.toUInt32 31)).toInt32)) &&& 252645135) + ((((((((x - ((((x : Int32).toUInt32 >>> ((1 : Int32).toUInt32 &&& Int32.toUInt32 31)).toInt32) &&& 1431655765)) &&& 858993459) + (((((x - ((((x : Int32).toUInt32 >>> ((1 : Int32).toUInt32 &&& Int32.toUInt32 31)).toInt32) &&& 1431655765)) : Int32).toUInt32 >>> ((2 : Int32).toUInt32 &&& Int32.toUInt32 31)).toInt32) &&& 858993459)) + ((((((x - ((((x : Int32).toUInt32 >>> ((1 : Int32).toUInt32 &&& Int32.toUInt32 31)).toInt32) &&& 1431655765)) &&& 858993459) + (((((x - ((((x : Int32).toUInt32 >>> ((1 : Int32).toUInt32 &&& Int32.toUInt32 31)).toInt32) &&& 1431655765)) : Int32).toUInt32 >>> ((2 : Int32).toUInt32 &&& Int32.toUInt32 31)).toInt32) &&& 858993459)) : Int32).toUInt32 >>> ((4 : Int32).toUInt32 &&& Int32.toUInt32 31)).toInt32)) &&& 252645135) : Int32).toUInt32 >>> ((8 : Int32).toUInt32 &&& Int32.toUInt32 31)).toInt32)) rfl (rfl) ?_
  refine Pv.istore (lo' := [some (.int ((((((x - ((((x : Int32).toUInt32 >>> ((1 : Int32).toUInt32 &&& Int32.toUInt32 31)).toInt32) &&& 1431655765)) &&& 858993459) + (((((x - ((((x : Int32).toUInt32 >>> ((1 : Int32).toUInt32 &&& Int32.toUInt32 31)).toInt32) &&& 1431655765)) : Int32).toUInt32 >>> ((2 : Int32).toUInt32 &&& Int32.toUInt32 31)).toInt32) &&& 858993459)) + ((((((x - ((((x : Int32).toUInt32 >>> ((1 : Int32).toUInt32 &&& Int32.toUInt32 31)).toInt32) &&& 1431655765)) &&& 858993459) + (((((x - ((((x : Int32).toUInt32 >>> ((1 : Int32).toUInt32 &&& Int32.toUInt32 31)).toInt32) &&& 1431655765)) : Int32).toUInt32 >>> ((2 : Int32).toUInt32 &&& Int32.toUInt32 31)).toInt32) &&& 858993459)) : Int32).toUInt32 >>> ((4 : Int32).toUInt32 &&& Int32.toUInt32 31)).toInt32)) &&& 252645135) + ((((((((x - ((((x : Int32).toUInt32 >>> ((1 : Int32).toUInt32 &&& Int32.toUInt32 31)).toInt32) &&& 1431655765)) &&& 858993459) + (((((x - ((((x : Int32).toUInt32 >>> ((1 : Int32).toUInt32 &&& Int32.toUInt32 31)).toInt32) &&& 1431655765)) : Int32).toUInt32 >>> ((2 : Int32).toUInt32 &&& Int32.toUInt32 31)).toInt32) &&& 858993459)) + ((((((x - ((((x : Int32).toUInt32 >>> ((1 : Int32).toUInt32 &&& Int32.toUInt32 31)).toInt32) &&& 1431655765)) &&& 858993459) + (((((x - ((((x : Int32).toUInt32 >>> ((1 : Int32).toUInt32 &&& Int32.toUInt32 31)).toInt32) &&& 1431655765)) : Int32).toUInt32 >>> ((2 : Int32).toUInt32 &&& Int32.toUInt32 31)).toInt32) &&& 858993459)) : Int32).toUInt32 >>> ((4 : Int32).toUInt32 &&& Int32.toUInt32 31)).toInt32)) &&& 252645135) : Int32).toUInt32 >>> ((8 : Int32).toUInt32 &&& Int32.toUInt32 31)).toInt32)))]) rfl rfl ?_
  refine Pv.iload rfl rfl ?_
  refine Pv.iload rfl rfl ?_
  refine Pv.lit rfl ?_
  refine Pv.bin (z := ((((((((x - ((((x : Int32).toUInt32 >>> ((1 : Int32).toUInt32 &&& Int32.toUInt32 31)).toInt32) &&& 1431655765)) &&& 858993459) + (((((x - ((((x : Int32).toUInt32 >>> ((1 : Int32).toUInt32 &&& Int32.toUInt32 31)).toInt32) &&& 1431655765)) : Int32).toUInt32 >>> ((2 : Int32).toUInt32 &&& Int32.toUInt32 31)).toInt32) &&& 858993459)) + ((((((x - ((((x : Int32).toUInt32 >>> ((1 : Int32).toUInt32 &&& Int32.toUInt32 31)).toInt32) &&& 1431655765)) &&& 858993459) + (((((x - ((((x : Int32).toUInt32 >>> ((1 : Int32).toUInt32 &&& Int32.toUInt32 31)).toInt32) &&& 1431655765)) : Int32).toUInt32 >>> ((2 : Int32).toUInt32 &&& Int32.toUInt32 31)).toInt32) &&& 858993459)) : Int32).toUInt32 >>> ((4 : Int32).toUInt32 &&& Int32.toUInt32 31)).toInt32)) &&& 252645135) + ((((((((x - ((((x : Int32).toUInt32 >>> ((1 : Int32).toUInt32 &&& Int32.toUInt32 31)).toInt32) &&& 1431655765)) &&& 858993459) + (((((x - ((((x : Int32).toUInt32 >>> ((1 : Int32).toUInt32 &&& Int32.toUInt32 31)).toInt32) &&& 1431655765)) : Int32).toUInt32 >>> ((2 : Int32).toUInt32 &&& Int32.toUInt32 31)).toInt32) &&& 858993459)) + ((((((x - ((((x : Int32).toUInt32 >>> ((1 : Int32).toUInt32 &&& Int32.toUInt32 31)).toInt32) &&& 1431655765)) &&& 858993459) + (((((x - ((((x : Int32).toUInt32 >>> ((1 : Int32).toUInt32 &&& Int32.toUInt32 31)).toInt32) &&& 1431655765)) : Int32).toUInt32 >>> ((2 : Int32).toUInt32 &&& Int32.toUInt32 31)).toInt32) &&& 858993459)) : Int32).toUInt32 >>> ((4 : Int32).toUInt32 &&& Int32.toUInt32 31)).toInt32)) &&& 252645135) : Int32).toUInt32 >>> ((8 : Int32).toUInt32 &&& Int32.toUInt32 31)).toInt32)) : Int32).toUInt32 >>> ((16 : Int32).toUInt32 &&& Int32.toUInt32 31)).toInt32) rfl (rfl) ?_
  refine Pv.bin (z := ((((((x - ((((x : Int32).toUInt32 >>> ((1 : Int32).toUInt32 &&& Int32.toUInt32 31)).toInt32) &&& 1431655765)) &&& 858993459) + (((((x - ((((x : Int32).toUInt32 >>> ((1 : Int32).toUInt32 &&& Int32.toUInt32 31)).toInt32) &&& 1431655765)) : Int32).toUInt32 >>> ((2 : Int32).toUInt32 &&& Int32.toUInt32 31)).toInt32) &&& 858993459)) + ((((((x - ((((x : Int32).toUInt32 >>> ((1 : Int32).toUInt32 &&& Int32.toUInt32 31)).toInt32) &&& 1431655765)) &&& 858993459) + (((((x - ((((x : Int32).toUInt32 >>> ((1 : Int32).toUInt32 &&& Int32.toUInt32 31)).toInt32) &&& 1431655765)) : Int32).toUInt32 >>> ((2 : Int32).toUInt32 &&& Int32.toUInt32 31)).toInt32) &&& 858993459)) : Int32).toUInt32 >>> ((4 : Int32).toUInt32 &&& Int32.toUInt32 31)).toInt32)) &&& 252645135) + ((((((((x - ((((x : Int32).toUInt32 >>> ((1 : Int32).toUInt32 &&& Int32.toUInt32 31)).toInt32) &&& 1431655765)) &&& 858993459) + (((((x - ((((x : Int32).toUInt32 >>> ((1 : Int32).toUInt32 &&& Int32.toUInt32 31)).toInt32) &&& 1431655765)) : Int32).toUInt32 >>> ((2 : Int32).toUInt32 &&& Int32.toUInt32 31)).toInt32) &&& 858993459)) + ((((((x - ((((x : Int32).toUInt32 >>> ((1 : Int32).toUInt32 &&& Int32.toUInt32 31)).toInt32) &&& 1431655765)) &&& 858993459) + (((((x - ((((x : Int32).toUInt32 >>> ((1 : Int32).toUInt32 &&& Int32.toUInt32 31)).toInt32) &&& 1431655765)) : Int32).toUInt32 >>> ((2 : Int32).toUInt32 &&& Int32.toUInt32 31)).toInt32) &&& 858993459)) : Int32).toUInt32 >>> ((4 : Int32).toUInt32 &&& Int32.toUInt32 31)).toInt32)) &&& 252645135) : Int32).toUInt32 >>> ((8 : Int32).toUInt32 &&& Int32.toUInt32 31)).toInt32)) + (((((((((x - ((((x : Int32).toUInt32 >>> ((1 : Int32).toUInt32 &&& Int32.toUInt32 31)).toInt32) &&& 1431655765)) &&& 858993459) + (((((x - ((((x : Int32).toUInt32 >>> ((1 : Int32).toUInt32 &&& Int32.toUInt32 31)).toInt32) &&& 1431655765)) : Int32).toUInt32 >>> ((2 : Int32).toUInt32 &&& Int32.toUInt32 31)).toInt32) &&& 858993459)) + ((((((x - ((((x : Int32).toUInt32 >>> ((1 : Int32).toUInt32 &&& Int32.toUInt32 31)).toInt32) &&& 1431655765)) &&& 858993459) + (((((x - ((((x : Int32).toUInt32 >>> ((1 : Int32).toUInt32 &&& Int32.toUInt32 31)).toInt32) &&& 1431655765)) : Int32).toUInt32 >>> ((2 : Int32).toUInt32 &&& Int32.toUInt32 31)).toInt32) &&& 858993459)) : Int32).toUInt32 >>> ((4 : Int32).toUInt32 &&& Int32.toUInt32 31)).toInt32)) &&& 252645135) + ((((((((x - ((((x : Int32).toUInt32 >>> ((1 : Int32).toUInt32 &&& Int32.toUInt32 31)).toInt32) &&& 1431655765)) &&& 858993459) + (((((x - ((((x : Int32).toUInt32 >>> ((1 : Int32).toUInt32 &&& Int32.toUInt32 31)).toInt32) &&& 1431655765)) : Int32).toUInt32 >>> ((2 : Int32).toUInt32 &&& Int32.toUInt32 31)).toInt32) &&& 858993459)) + ((((((x - ((((x : Int32).toUInt32 >>> ((1 : Int32).toUInt32 &&& Int32.toUInt32 31)).toInt32) &&& 1431655765)) &&& 858993459) + (((((x - ((((x : Int32).toUInt32 >>> ((1 : Int32).toUInt32 &&& Int32.toUInt32 31)).toInt32) &&& 1431655765)) : Int32).toUInt32 >>> ((2 : Int32).toUInt32 &&& Int32.toUInt32 31)).toInt32) &&& 858993459)) : Int32).toUInt32 >>> ((4 : Int32).toUInt32 &&& Int32.toUInt32 31)).toInt32)) &&& 252645135) : Int32).toUInt32 >>> ((8 : Int32).toUInt32 &&& Int32.toUInt32 31)).toInt32)) : Int32).toUInt32 >>> ((16 : Int32).toUInt32 &&& Int32.toUInt32 31)).toInt32)) rfl (rfl) ?_
  refine Pv.istore (lo' := [some (.int (((((((x - ((((x : Int32).toUInt32 >>> ((1 : Int32).toUInt32 &&& Int32.toUInt32 31)).toInt32) &&& 1431655765)) &&& 858993459) + (((((x - ((((x : Int32).toUInt32 >>> ((1 : Int32).toUInt32 &&& Int32.toUInt32 31)).toInt32) &&& 1431655765)) : Int32).toUInt32 >>> ((2 : Int32).toUInt32 &&& Int32.toUInt32 31)).toInt32) &&& 858993459)) + ((((((x - ((((x : Int32).toUInt32 >>> ((1 : Int32).toUInt32 &&& Int32.toUInt32 31)).toInt32) &&& 1431655765)) &&& 858993459) + (((((x - ((((x : Int32).toUInt32 >>> ((1 : Int32).toUInt32 &&& Int32.toUInt32 31)).toInt32) &&& 1431655765)) : Int32).toUInt32 >>> ((2 : Int32).toUInt32 &&& Int32.toUInt32 31)).toInt32) &&& 858993459)) : Int32).toUInt32 >>> ((4 : Int32).toUInt32 &&& Int32.toUInt32 31)).toInt32)) &&& 252645135) + ((((((((x - ((((x : Int32).toUInt32 >>> ((1 : Int32).toUInt32 &&& Int32.toUInt32 31)).toInt32) &&& 1431655765)) &&& 858993459) + (((((x - ((((x : Int32).toUInt32 >>> ((1 : Int32).toUInt32 &&& Int32.toUInt32 31)).toInt32) &&& 1431655765)) : Int32).toUInt32 >>> ((2 : Int32).toUInt32 &&& Int32.toUInt32 31)).toInt32) &&& 858993459)) + ((((((x - ((((x : Int32).toUInt32 >>> ((1 : Int32).toUInt32 &&& Int32.toUInt32 31)).toInt32) &&& 1431655765)) &&& 858993459) + (((((x - ((((x : Int32).toUInt32 >>> ((1 : Int32).toUInt32 &&& Int32.toUInt32 31)).toInt32) &&& 1431655765)) : Int32).toUInt32 >>> ((2 : Int32).toUInt32 &&& Int32.toUInt32 31)).toInt32) &&& 858993459)) : Int32).toUInt32 >>> ((4 : Int32).toUInt32 &&& Int32.toUInt32 31)).toInt32)) &&& 252645135) : Int32).toUInt32 >>> ((8 : Int32).toUInt32 &&& Int32.toUInt32 31)).toInt32)) + (((((((((x - ((((x : Int32).toUInt32 >>> ((1 : Int32).toUInt32 &&& Int32.toUInt32 31)).toInt32) &&& 1431655765)) &&& 858993459) + (((((x - ((((x : Int32).toUInt32 >>> ((1 : Int32).toUInt32 &&& Int32.toUInt32 31)).toInt32) &&& 1431655765)) : Int32).toUInt32 >>> ((2 : Int32).toUInt32 &&& Int32.toUInt32 31)).toInt32) &&& 858993459)) + ((((((x - ((((x : Int32).toUInt32 >>> ((1 : Int32).toUInt32 &&& Int32.toUInt32 31)).toInt32) &&& 1431655765)) &&& 858993459) + (((((x - ((((x : Int32).toUInt32 >>> ((1 : Int32).toUInt32 &&& Int32.toUInt32 31)).toInt32) &&& 1431655765)) : Int32).toUInt32 >>> ((2 : Int32).toUInt32 &&& Int32.toUInt32 31)).toInt32) &&& 858993459)) : Int32).toUInt32 >>> ((4 : Int32).toUInt32 &&& Int32.toUInt32 31)).toInt32)) &&& 252645135) + ((((((((x - ((((x : Int32).toUInt32 >>> ((1 : Int32).toUInt32 &&& Int32.toUInt32 31)).toInt32) &&& 1431655765)) &&& 858993459) + (((((x - ((((x : Int32).toUInt32 >>> ((1 : Int32).toUInt32 &&& Int32.toUInt32 31)).toInt32) &&& 1431655765)) : Int32).toUInt32 >>> ((2 : Int32).toUInt32 &&& Int32.toUInt32 31)).toInt32) &&& 858993459)) + ((((((x - ((((x : Int32).toUInt32 >>> ((1 : Int32).toUInt32 &&& Int32.toUInt32 31)).toInt32) &&& 1431655765)) &&& 858993459) + (((((x - ((((x : Int32).toUInt32 >>> ((1 : Int32).toUInt32 &&& Int32.toUInt32 31)).toInt32) &&& 1431655765)) : Int32).toUInt32 >>> ((2 : Int32).toUInt32 &&& Int32.toUInt32 31)).toInt32) &&& 858993459)) : Int32).toUInt32 >>> ((4 : Int32).toUInt32 &&& Int32.toUInt32 31)).toInt32)) &&& 252645135) : Int32).toUInt32 >>> ((8 : Int32).toUInt32 &&& Int32.toUInt32 31)).toInt32)) : Int32).toUInt32 >>> ((16 : Int32).toUInt32 &&& Int32.toUInt32 31)).toInt32)))]) rfl rfl ?_
  refine Pv.iload rfl rfl ?_
  refine Pv.lit rfl ?_
  refine Pv.bin (z := (((((((x - ((((x : Int32).toUInt32 >>> ((1 : Int32).toUInt32 &&& Int32.toUInt32 31)).toInt32) &&& 1431655765)) &&& 858993459) + (((((x - ((((x : Int32).toUInt32 >>> ((1 : Int32).toUInt32 &&& Int32.toUInt32 31)).toInt32) &&& 1431655765)) : Int32).toUInt32 >>> ((2 : Int32).toUInt32 &&& Int32.toUInt32 31)).toInt32) &&& 858993459)) + ((((((x - ((((x : Int32).toUInt32 >>> ((1 : Int32).toUInt32 &&& Int32.toUInt32 31)).toInt32) &&& 1431655765)) &&& 858993459) + (((((x - ((((x : Int32).toUInt32 >>> ((1 : Int32).toUInt32 &&& Int32.toUInt32 31)).toInt32) &&& 1431655765)) : Int32).toUInt32 >>> ((2 : Int32).toUInt32 &&& Int32.toUInt32 31)).toInt32) &&& 858993459)) : Int32).toUInt32 >>> ((4 : Int32).toUInt32 &&& Int32.toUInt32 31)).toInt32)) &&& 252645135) + ((((((((x - ((((x : Int32).toUInt32 >>> ((1 : Int32).toUInt32 &&& Int32.toUInt32 31)).toInt32) &&& 1431655765)) &&& 858993459) + (((((x - ((((x : Int32).toUInt32 >>> ((1 : Int32).toUInt32 &&& Int32.toUInt32 31)).toInt32) &&& 1431655765)) : Int32).toUInt32 >>> ((2 : Int32).toUInt32 &&& Int32.toUInt32 31)).toInt32) &&& 858993459)) + ((((((x - ((((x : Int32).toUInt32 >>> ((1 : Int32).toUInt32 &&& Int32.toUInt32 31)).toInt32) &&& 1431655765)) &&& 858993459) + (((((x - ((((x : Int32).toUInt32 >>> ((1 : Int32).toUInt32 &&& Int32.toUInt32 31)).toInt32) &&& 1431655765)) : Int32).toUInt32 >>> ((2 : Int32).toUInt32 &&& Int32.toUInt32 31)).toInt32) &&& 858993459)) : Int32).toUInt32 >>> ((4 : Int32).toUInt32 &&& Int32.toUInt32 31)).toInt32)) &&& 252645135) : Int32).toUInt32 >>> ((8 : Int32).toUInt32 &&& Int32.toUInt32 31)).toInt32)) + (((((((((x - ((((x : Int32).toUInt32 >>> ((1 : Int32).toUInt32 &&& Int32.toUInt32 31)).toInt32) &&& 1431655765)) &&& 858993459) + (((((x - ((((x : Int32).toUInt32 >>> ((1 : Int32).toUInt32 &&& Int32.toUInt32 31)).toInt32) &&& 1431655765)) : Int32).toUInt32 >>> ((2 : Int32).toUInt32 &&& Int32.toUInt32 31)).toInt32) &&& 858993459)) + ((((((x - ((((x : Int32).toUInt32 >>> ((1 : Int32).toUInt32 &&& Int32.toUInt32 31)).toInt32) &&& 1431655765)) &&& 858993459) + (((((x - ((((x : Int32).toUInt32 >>> ((1 : Int32).toUInt32 &&& Int32.toUInt32 31)).toInt32) &&& 1431655765)) : Int32).toUInt32 >>> ((2 : Int32).toUInt32 &&& Int32.toUInt32 31)).toInt32) &&& 858993459)) : Int32).toUInt32 >>> ((4 : Int32).toUInt32 &&& Int32.toUInt32 31)).toInt32)) &&& 252645135) + ((((((((x - ((((x : Int32).toUInt32 >>> ((1 : Int32).toUInt32 &&& Int32.toUInt32 31)).toInt32) &&& 1431655765)) &&& 858993459) + (((((x - ((((x : Int32).toUInt32 >>> ((1 : Int32).toUInt32 &&& Int32.toUInt32 31)).toInt32) &&& 1431655765)) : Int32).toUInt32 >>> ((2 : Int32).toUInt32 &&& Int32.toUInt32 31)).toInt32) &&& 858993459)) + ((((((x - ((((x : Int32).toUInt32 >>> ((1 : Int32).toUInt32 &&& Int32.toUInt32 31)).toInt32) &&& 1431655765)) &&& 858993459) + (((((x - ((((x : Int32).toUInt32 >>> ((1 : Int32).toUInt32 &&& Int32.toUInt32 31)).toInt32) &&& 1431655765)) : Int32).toUInt32 >>> ((2 : Int32).toUInt32 &&& Int32.toUInt32 31)).toInt32) &&& 858993459)) : Int32).toUInt32 >>> ((4 : Int32).toUInt32 &&& Int32.toUInt32 31)).toInt32)) &&& 252645135) : Int32).toUInt32 >>> ((8 : Int32).toUInt32 &&& Int32.toUInt32 31)).toInt32)) : Int32).toUInt32 >>> ((16 : Int32).toUInt32 &&& Int32.toUInt32 31)).toInt32)) &&& 63) rfl (rfl) ?_
  exact Pv.ret rfl (by rw [hQ]; exact ⟨rfl, rfl⟩)
set_option maxRecDepth 100000 in
set_option maxHeartbeats 4000000 in
theorem o_dearest {F : FW} {t : Nat} {T : St} {S : Sh} (hG : GW F) (ht : F.2.1 0 13 = .ref t) (hT : TR F t T) (hS : SHR F 12 (t_m T) S) (j0 : t = 45 ∨ t = 53) : Pm Z_X10_dearest [.ref 0] F (fun r F' => r = some (.int (a_dearest T S)) ∧ F' = F) := by
  refine Pm.of fun N => ?_
  obtain ⟨Q, hQ⟩ : ∃ Q : Option Value → FW → Prop, Q = (fun r F' => r = some (.int (a_dearest T S)) ∧ F' = F) := ⟨_, rfl⟩
  rw [← hQ]
  have b3 := hT.mb
  have b4 := hT.nb
  have b5 := hT.gb
  have b6 := m_from_lt S
  have b7 := hS.db
  refine (show Pv (ab_T (L_X10_dearest Z_X6_missersOf Z_J6_bitCount_0f7a4)) N 0 [some (.ref 0), none, none, none, none] [] F Q from ?_)
  refine Pv.lit rfl ?_
  refine Pv.istore (lo' := [some (.ref 0), some (.int 0), none, none, none]) rfl rfl ?_
  refine Pv.lit rfl ?_
  refine Pv.istore (lo' := [some (.ref 0), some (.int 0), some (.int (-1)), none, none]) rfl rfl ?_
  refine Pv.lit rfl ?_
  refine Pv.istore (lo' := [some (.ref 0), some (.int 0), some (.int (-1)), some (.int 0), none]) rfl rfl ?_
  refine Pv.lp (ι := Nat × Int32 × Int32 × (Option Value)) (lof := fun ⟨k, b, e, o1⟩ => [some (.ref 0), some (.int b), some (.int e), some (.int (Int32.ofNat k)), o1]) (Ff := fun ⟨k, b, e, o1⟩ => F) (P := fun ⟨k, b, e, o1⟩ => k ≤ t_m T ∧ (b, e) = m_top (fun m => jbc (m_missers T S m)) k) ?_ (0, 0, (-1), none) (⟨Nat.zero_le _, rfl⟩)
  rintro N2 hN3 ⟨k, b, e, o1⟩ hi4 ih5
  refine (show Pv _ _ 6 [some (.ref 0), some (.int b), some (.int e), some (.int (Int32.ofNat k)), o1] [] F Q from ?_)
  obtain ⟨hk, hb⟩ := hi4
  refine Pv.iloadS rfl rfl ?_
  refine Pv.aload rfl rfl ?_
  refine Pv.getR (v := .ref t) rfl rfl (ht) ?_
  refine Pv.getI (z := Int32.ofNat (t_m T)) rfl rfl (hT.m) ?_
  refine Pv.icmp rfl (fun c6 => ?_) (fun c6 => ?_)
  · skip
    replace c6 := (i_le (a := t_m T) (b := k) (by omega) (by omega)).mp (of_decide_eq_true c6)
    refine Pv.iload rfl rfl ?_
    exact Pv.ret rfl (by rw [hQ]; exact ⟨by unfold a_dearest; rw [show t_m T = k by omega, ← hb], rfl⟩)
  · skip
    replace c6 := mt (i_le (a := t_m T) (b := k) (by omega) (by omega)).mpr (of_decide_eq_false c6)
    refine Pv.aload rfl rfl ?_
    refine Pv.getR (v := .ref 12) rfl rfl (GW.at (a := 0) (k := 4) (b := 12) hG (by decide)) ?_
    refine Pv.aload rfl rfl ?_
    refine Pv.getR (v := .ref t) rfl rfl (ht) ?_
    refine Pv.iload rfl rfl ?_
    refine Pv.callVI (as := [.ref 12, .ref t, .int (Int32.ofNat k)]) (rest := []) (z := m_missers T S k) rfl rfl rfl (f_missersOf (m := k) hT hS (by omega)) ?_
    refine Pv.callI (as := [.int (m_missers T S k)]) (rest := []) (z := jbc (m_missers T S k)) rfl rfl rfl (f_bitCount (m_missers T S k)) ?_
    refine Pv.istore (lo' := [some (.ref 0), some (.int b), some (.int e), some (.int (Int32.ofNat k)), some (.int (jbc (m_missers T S k)))]) rfl rfl ?_
    refine Pv.iload rfl rfl ?_
    refine Pv.iload rfl rfl ?_
    refine Pv.icmp rfl (fun c7 => ?_) (fun c7 => ?_)
    · skip
      replace c7 := of_decide_eq_true c7
      refine Pv.iinc (y := Int32.ofNat (k + 1)) (lo' := [some (.ref 0), some (.int b), some (.int e), some (.int (Int32.ofNat (k + 1))), some (.int (jbc (m_missers T S k)))]) rfl rfl (i_add k 1) rfl ?_
      refine Pv.goto rfl ?_
      exact ih5 (k + 1, b, e, (some (.int (jbc (m_missers T S k))))) (⟨by omega, by show _ = (if _ then _ else _ : Int32 × Int32); rw [if_pos (by rw [← hb]; exact c7)]; exact hb⟩)
    · skip
      replace c7 := of_decide_eq_false c7
      refine Pv.iload rfl rfl ?_
      refine Pv.istore (lo' := [some (.ref 0), some (.int (jbc (m_missers T S k))), some (.int e), some (.int (Int32.ofNat k)), some (.int (jbc (m_missers T S k)))]) rfl rfl ?_
      refine Pv.iload rfl rfl ?_
      refine Pv.istore (lo' := [some (.ref 0), some (.int (jbc (m_missers T S k))), some (.int (Int32.ofNat k)), some (.int (Int32.ofNat k)), some (.int (jbc (m_missers T S k)))]) rfl rfl ?_
      refine Pv.iinc (y := Int32.ofNat (k + 1)) (lo' := [some (.ref 0), some (.int (jbc (m_missers T S k))), some (.int (Int32.ofNat k)), some (.int (Int32.ofNat (k + 1))), some (.int (jbc (m_missers T S k)))]) rfl rfl (i_add k 1) rfl ?_
      refine Pv.goto rfl ?_
      exact ih5 (k + 1, jbc (m_missers T S k), Int32.ofNat k, (some (.int (jbc (m_missers T S k))))) (⟨by omega, by show _ = (if _ then _ else _ : Int32 × Int32); rw [if_neg (by rw [← hb]; exact c7)]⟩)
set_option maxRecDepth 100000 in
set_option maxHeartbeats 4000000 in
theorem o_rats {F : FW} {t : Nat} {T : St} {S : Sh} (hG : GW F) (ht : F.2.1 0 13 = .ref t) (hT : TR F t T) (hS : SHR F 12 (t_m T) S) (j0 : t = 45 ∨ t = 53) : Pm Z_X10_rats [.ref 0] F (fun r F' => r = some (.int (a_rats T S)) ∧ F' = F) := by
  refine Pm.of fun N => ?_
  obtain ⟨Q, hQ⟩ : ∃ Q : Option Value → FW → Prop, Q = (fun r F' => r = some (.int (a_rats T S)) ∧ F' = F) := ⟨_, rfl⟩
  rw [← hQ]
  have b3 := hT.mb
  have b4 := hT.nb
  have b5 := hT.gb
  have b6 := m_from_lt S
  have b7 := hS.db
  refine (show Pv (ab_T (L_X10_rats Z_X6_isAlive Z_X6_couldBeMissed)) N 0 [some (.ref 0), none, none] [] F Q from ?_)
  refine Pv.lit rfl ?_
  refine Pv.istore (lo' := [some (.ref 0), some (.int 0), none]) rfl rfl ?_
  refine Pv.lit rfl ?_
  refine Pv.istore (lo' := [some (.ref 0), some (.int 0), some (.int 0)]) rfl rfl ?_
  refine Pv.lp (ι := Nat × Int32) (lof := fun ⟨k, b⟩ => [some (.ref 0), some (.int b), some (.int (Int32.ofNat k))]) (Ff := fun ⟨k, b⟩ => F) (P := fun ⟨k, b⟩ => k ≤ t_m T ∧ b = m_bits (fun m => m_alive S m && !m_could T S m (t_n T)) id k) ?_ (0, 0) (⟨Nat.zero_le _, rfl⟩)
  rintro N1 hN2 ⟨k, b⟩ hi3 ih4
  refine (show Pv _ _ 4 [some (.ref 0), some (.int b), some (.int (Int32.ofNat k))] [] F Q from ?_)
  obtain ⟨hk, hb⟩ := hi3
  refine Pv.iloadS rfl rfl ?_
  refine Pv.aload rfl rfl ?_
  refine Pv.getR (v := .ref t) rfl rfl (ht) ?_
  refine Pv.getI (z := Int32.ofNat (t_m T)) rfl rfl (hT.m) ?_
  refine Pv.icmp rfl (fun c5 => ?_) (fun c5 => ?_)
  · skip
    replace c5 := (i_le (a := t_m T) (b := k) (by omega) (by omega)).mp (of_decide_eq_true c5)
    refine Pv.iload rfl rfl ?_
    exact Pv.ret rfl (by rw [hQ]; exact ⟨by unfold a_rats; rw [hb, show k = t_m T by omega], rfl⟩)
  · skip
    replace c5 := mt (i_le (a := t_m T) (b := k) (by omega) (by omega)).mpr (of_decide_eq_false c5)
    refine Pv.aload rfl rfl ?_
    refine Pv.getR (v := .ref 12) rfl rfl (GW.at (a := 0) (k := 4) (b := 12) hG (by decide)) ?_
    refine Pv.iload rfl rfl ?_
    refine Pv.callVI (as := [.ref 12, .int (Int32.ofNat k)]) (rest := []) (z := b2i (m_alive S k)) rfl rfl rfl (f_isAlive (m := k) hS (by omega) (by omega)) ?_
    refine Pv.if0 rfl (fun c6 => ?_) (fun c6 => ?_)
    · skip
      replace c6 := of_decide_eq_true c6
      replace c6 := b2z.mp c6
      refine Pv.iinc (y := Int32.ofNat (k + 1)) (lo' := [some (.ref 0), some (.int b), some (.int (Int32.ofNat (k + 1)))]) rfl rfl (i_add k 1) rfl ?_
      refine Pv.goto rfl ?_
      exact ih4 (k + 1, b) (⟨by omega, hb.trans (m_bits_f (by simp [c5, c6])).symm⟩)
    · skip
      replace c6 := of_decide_eq_false c6
      replace c6 := b2n.mp c6
      refine Pv.aload rfl rfl ?_
      refine Pv.getR (v := .ref 12) rfl rfl (GW.at (a := 0) (k := 4) (b := 12) hG (by decide)) ?_
      refine Pv.aload rfl rfl ?_
      refine Pv.getR (v := .ref t) rfl rfl (ht) ?_
      refine Pv.iload rfl rfl ?_
      refine Pv.callVI (as := [.ref 12, .ref t, .int (Int32.ofNat k)]) (rest := []) (z := b2i (m_could T S k (t_n T))) rfl rfl rfl (f_couldBeMissed (m := k) hT hS (by omega)) ?_
      refine Pv.if0 rfl (fun c7 => ?_) (fun c7 => ?_)
      · skip
        replace c7 : decide (b2i (m_could T S k (t_n T)) = 0) = false := by simpa using c7
        replace c7 := of_decide_eq_false c7
        replace c7 := b2n.mp c7
        refine Pv.iinc (y := Int32.ofNat (k + 1)) (lo' := [some (.ref 0), some (.int b), some (.int (Int32.ofNat (k + 1)))]) rfl rfl (i_add k 1) rfl ?_
        refine Pv.goto rfl ?_
        exact ih4 (k + 1, b) (⟨by omega, hb.trans (m_bits_f (by simp [c5, c6, c7])).symm⟩)
      · skip
        replace c7 : decide (b2i (m_could T S k (t_n T)) = 0) = true := by simpa using c7
        replace c7 := of_decide_eq_true c7
        replace c7 := b2z.mp c7
        refine Pv.iload rfl rfl ?_
        refine Pv.lit rfl ?_
        refine Pv.iload rfl rfl ?_
        refine Pv.bin (z := 1 <<< ((Int32.ofNat k) &&& 31)) rfl (rfl) ?_
        refine Pv.bin (z := b ||| (1 <<< ((Int32.ofNat k) &&& 31))) rfl (rfl) ?_
        refine Pv.istore (lo' := [some (.ref 0), some (.int (b ||| (1 <<< ((Int32.ofNat k) &&& 31)))), some (.int (Int32.ofNat k))]) rfl rfl ?_
        refine Pv.iinc (y := Int32.ofNat (k + 1)) (lo' := [some (.ref 0), some (.int (b ||| (1 <<< ((Int32.ofNat k) &&& 31)))), some (.int (Int32.ofNat (k + 1)))]) rfl rfl (i_add k 1) rfl ?_
        refine Pv.goto rfl ?_
        exact ih4 (k + 1, b ||| (1 <<< ((Int32.ofNat k) &&& 31))) (⟨by omega, by rw [m_bits_t (f := (fun m => m_alive S m && !m_could T S m (t_n T))) (g := id) (k := k) (by simp [c5, c6, c7]), hb]; try rfl⟩)
set_option maxRecDepth 100000 in
set_option maxHeartbeats 4000000 in
theorem o_areLivingTwo {F : FW} {t : Nat} {T : St} {S : Sh} (hG : GW F) (ht : F.2.1 0 13 = .ref t) (hT : TR F t T) (hS : SHR F 12 (t_m T) S) (j0 : t = 45 ∨ t = 53) (x y : Int32) : Pm Z_X10_areLivingTwo [.ref 0, .int x, .int y] F (fun r F' => r = some (.int (b2i (liv2 T S x y).isSome)) ∧ F' = F) := by
  refine Pm.of fun N => ?_
  obtain ⟨Q, hQ⟩ : ∃ Q : Option Value → FW → Prop, Q = (fun r F' => r = some (.int (b2i (liv2 T S x y).isSome)) ∧ F' = F) := ⟨_, rfl⟩
  rw [← hQ]
  have b3 := hT.mb
  have b4 := hT.nb
  have b5 := hT.gb
  have b6 := m_from_lt S
  have b7 := hS.db
  refine (show Pv (ab_T (L_X10_areLivingTwo Z_X10_isMan Z_X6_isAlive)) N 0 [some (.ref 0), some (.int x), some (.int y)] [] F Q from ?_)
  refine Pv.aload rfl rfl ?_
  refine Pv.iload rfl rfl ?_
  refine Pv.callVI (as := [.ref 0, .int x]) (rest := []) (z := b2i (nd (t_m T) x).isSome) rfl rfl rfl (o_isMan hG ht hT hS j0 x) ?_
  refine Pv.if0 rfl (fun c1 => ?_) (fun c1 => ?_)
  · skip
    replace c1 := of_decide_eq_true c1
    replace c1 := b2z.mp c1
    refine Pv.lit rfl ?_
    exact Pv.zret rfl (by rw [hQ]; exact ⟨b2_f (by unfold liv2; rw [nd_f c1]; rfl), rfl⟩)
  · skip
    replace c1 := of_decide_eq_false c1
    replace c1 := b2n.mp c1
    obtain ⟨m, hm, hml, rfl⟩ := nd_t c1
    refine Pv.aload rfl rfl ?_
    refine Pv.iload rfl rfl ?_
    refine Pv.callVI (as := [.ref 0, .int y]) (rest := []) (z := b2i (nd (t_m T) y).isSome) rfl rfl rfl (o_isMan hG ht hT hS j0 y) ?_
    refine Pv.if0 rfl (fun c2 => ?_) (fun c2 => ?_)
    · skip
      replace c2 := of_decide_eq_true c2
      replace c2 := b2z.mp c2
      refine Pv.lit rfl ?_
      exact Pv.zret rfl (by rw [hQ]; exact ⟨b2_f (by unfold liv2; rw [hm]; dsimp only; rw [nd_f c2]; rfl), rfl⟩)
    · skip
      replace c2 := of_decide_eq_false c2
      replace c2 := b2n.mp c2
      obtain ⟨o, ho, hol, rfl⟩ := nd_t c2
      refine Pv.iload rfl rfl ?_
      refine Pv.iload rfl rfl ?_
      refine Pv.icmp rfl (fun c3 => ?_) (fun c3 => ?_)
      · skip
        replace c3 := (i_eq (a := m) (b := o) (by omega) (by omega)).mp (of_decide_eq_true c3)
        refine Pv.lit rfl ?_
        exact Pv.zret rfl (by rw [hQ]; exact ⟨b2_f (by unfold liv2; rw [hm]; dsimp only; rw [ho]; dsimp only; rw [if_neg (by simp [c3])]; rfl), rfl⟩)
      · skip
        replace c3 := mt (i_eq (a := m) (b := o) (by omega) (by omega)).mpr (of_decide_eq_false c3)
        refine Pv.aload rfl rfl ?_
        refine Pv.getR (v := .ref 12) rfl rfl (GW.at (a := 0) (k := 4) (b := 12) hG (by decide)) ?_
        refine Pv.iload rfl rfl ?_
        refine Pv.callVI (as := [.ref 12, .int (Int32.ofNat m)]) (rest := []) (z := b2i (m_alive S m)) rfl rfl rfl (f_isAlive (m := m) hS (by omega) (by omega)) ?_
        refine Pv.if0 rfl (fun c4 => ?_) (fun c4 => ?_)
        · skip
          replace c4 := of_decide_eq_true c4
          replace c4 := b2z.mp c4
          refine Pv.lit rfl ?_
          exact Pv.zret rfl (by rw [hQ]; exact ⟨b2_f (by unfold liv2; rw [hm]; dsimp only; rw [ho]; dsimp only; rw [if_neg (by simp [c3, c4])]; rfl), rfl⟩)
        · skip
          replace c4 := of_decide_eq_false c4
          replace c4 := b2n.mp c4
          refine Pv.aload rfl rfl ?_
          refine Pv.getR (v := .ref 12) rfl rfl (GW.at (a := 0) (k := 4) (b := 12) hG (by decide)) ?_
          refine Pv.iload rfl rfl ?_
          refine Pv.callVI (as := [.ref 12, .int (Int32.ofNat o)]) (rest := []) (z := b2i (m_alive S o)) rfl rfl rfl (f_isAlive (m := o) hS (by omega) (by omega)) ?_
          refine Pv.if0 rfl (fun c5 => ?_) (fun c5 => ?_)
          · skip
            replace c5 := of_decide_eq_true c5
            replace c5 := b2z.mp c5
            refine Pv.lit rfl ?_
            exact Pv.zret rfl (by rw [hQ]; exact ⟨b2_f (by unfold liv2; rw [hm]; dsimp only; rw [ho]; dsimp only; rw [if_neg (by simp [c3, c4, c5])]; rfl), rfl⟩)
          · skip
            replace c5 := of_decide_eq_false c5
            replace c5 := b2n.mp c5
            refine Pv.lit rfl ?_
            refine Pv.goto rfl ?_
            exact Pv.zret rfl (by rw [hQ]; exact ⟨b2_t (by unfold liv2; rw [hm]; dsimp only; rw [ho]; dsimp only; rw [if_pos ⟨c3, c4, c5⟩]; rfl), rfl⟩)
set_option maxRecDepth 100000 in
set_option maxHeartbeats 4000000 in
theorem o_apart {F : FW} {t : Nat} {T : St} {S : Sh} (hG : GW F) (ht : F.2.1 0 13 = .ref t) (hT : TR F t T) (hS : SHR F 12 (t_m T) S) (j0 : t = 45 ∨ t = 53) (x y : Int32) : Pm Z_X10_apart [.ref 0, .int x, .int y] F (fun r F' => r = some (.int (a_apart T S x y)) ∧ F' = F) := by
  refine Pm.of fun N => ?_
  obtain ⟨Q, hQ⟩ : ∃ Q : Option Value → FW → Prop, Q = (fun r F' => r = some (.int (a_apart T S x y)) ∧ F' = F) := ⟨_, rfl⟩
  rw [← hQ]
  have b3 := hT.mb
  have b4 := hT.nb
  have b5 := hT.gb
  have b6 := m_from_lt S
  have b7 := hS.db
  refine (show Pv (ab_T (L_X10_apart Z_X10_areLivingTwo Z_X6_apartOf)) N 0 [some (.ref 0), some (.int x), some (.int y)] [] F Q from ?_)
  refine Pv.aload rfl rfl ?_
  refine Pv.iload rfl rfl ?_
  refine Pv.iload rfl rfl ?_
  refine Pv.callVI (as := [.ref 0, .int x, .int y]) (rest := []) (z := b2i (liv2 T S x y).isSome) rfl rfl rfl (o_areLivingTwo hG ht hT hS j0 x y) ?_
  refine Pv.if0 rfl (fun c1 => ?_) (fun c1 => ?_)
  · skip
    replace c1 := of_decide_eq_true c1
    replace c1 := b2z.mp c1
    refine Pv.lit rfl ?_
    exact Pv.ret rfl (by rw [hQ]; exact ⟨by unfold a_apart; rw [liv2_n c1], rfl⟩)
  · skip
    replace c1 := of_decide_eq_false c1
    replace c1 := b2n.mp c1
    obtain ⟨⟨m, o⟩, hl⟩ := Option.isSome_iff_exists.mp c1
    obtain ⟨hm, ho, -, -, -, rfl, rfl⟩ := liv2_s hl
    refine Pv.aload rfl rfl ?_
    refine Pv.getR (v := .ref 12) rfl rfl (GW.at (a := 0) (k := 4) (b := 12) hG (by decide)) ?_
    refine Pv.iload rfl rfl ?_
    refine Pv.iload rfl rfl ?_
    refine Pv.callVI (as := [.ref 12, .int (Int32.ofNat m), .int (Int32.ofNat o)]) (rest := []) (z := m_apart S m o) rfl rfl rfl (f_apartOf (m := m) (o := o) hS (by omega) (by omega)) ?_
    refine Pv.goto rfl ?_
    exact Pv.ret rfl (by rw [hQ]; exact ⟨by unfold a_apart; rw [hl], rfl⟩)
set_option maxRecDepth 100000 in
set_option maxHeartbeats 4000000 in
theorem o_now {F : FW} {t : Nat} {T : St} {S : Sh} (hG : GW F) (ht : F.2.1 0 13 = .ref t) (hT : TR F t T) (hS : SHR F 12 (t_m T) S) (j0 : t = 45 ∨ t = 53) (w : Int32) : Pm Z_X10_now [.ref 0, .int w] F (fun r F' => r = some (.int (a_now T S w)) ∧ F' = F) := by
  refine Pm.of fun N => ?_
  obtain ⟨Q, hQ⟩ : ∃ Q : Option Value → FW → Prop, Q = (fun r F' => r = some (.int (a_now T S w)) ∧ F' = F) := ⟨_, rfl⟩
  rw [← hQ]
  have b3 := hT.mb
  have b4 := hT.nb
  have b5 := hT.gb
  have b6 := m_from_lt S
  have b7 := hS.db
  refine (show Pv (ab_T (L_X10_now Z_X6_ferryShore Z_X6_menOn Z_X6_hungerInAll)) N 0 [some (.ref 0), some (.int w)] [] F Q from ?_)
  refine Pv.iload rfl rfl ?_
  rcases nd_7 w with rfl | rfl | rfl | rfl | rfl | rfl | rfl | hw
  · refine Pv.tab (t := 44) rfl rfl ?_
    refine Pv.aload rfl rfl ?_
    refine Pv.getR (v := .ref 12) rfl rfl (GW.at (a := 0) (k := 4) (b := 12) hG (by decide)) ?_
    refine Pv.getI (z := Int32.ofNat (h_d S)) rfl rfl (hS.d) ?_
    exact Pv.ret rfl (by rw [hQ]; exact ⟨rfl, rfl⟩)
  · refine Pv.tab (t := 52) rfl rfl ?_
    refine Pv.aload rfl rfl ?_
    refine Pv.getR (v := .ref 12) rfl rfl (GW.at (a := 0) (k := 4) (b := 12) hG (by decide)) ?_
    refine Pv.callVI (as := [.ref 12]) (rest := []) (z := Int32.ofNat (m_from S)) rfl rfl rfl (f_ferryShore hS) ?_
    exact Pv.ret rfl (by rw [hQ]; exact ⟨rfl, rfl⟩)
  · refine Pv.tab (t := 60) rfl rfl ?_
    refine Pv.aload rfl rfl ?_
    refine Pv.getR (v := .ref 12) rfl rfl (GW.at (a := 0) (k := 4) (b := 12) hG (by decide)) ?_
    refine Pv.aload rfl rfl ?_
    refine Pv.getR (v := .ref t) rfl rfl (ht) ?_
    refine Pv.lit rfl ?_
    refine Pv.callVI (as := [.ref 12, .ref t, .int 0]) (rest := []) (z := m_men T S 0) rfl rfl rfl (f_menOn (x := 0) hT hS) ?_
    exact Pv.ret rfl (by rw [hQ]; exact ⟨rfl, rfl⟩)
  · refine Pv.tab (t := 73) rfl rfl ?_
    refine Pv.aload rfl rfl ?_
    refine Pv.getR (v := .ref 12) rfl rfl (GW.at (a := 0) (k := 4) (b := 12) hG (by decide)) ?_
    refine Pv.aload rfl rfl ?_
    refine Pv.getR (v := .ref t) rfl rfl (ht) ?_
    refine Pv.lit rfl ?_
    refine Pv.callVI (as := [.ref 12, .ref t, .int 1]) (rest := []) (z := m_men T S 1) rfl rfl rfl (f_menOn (x := 1) hT hS) ?_
    exact Pv.ret rfl (by rw [hQ]; exact ⟨rfl, rfl⟩)
  · refine Pv.tab (t := 86) rfl rfl ?_
    refine Pv.aload rfl rfl ?_
    refine Pv.getR (v := .ref 12) rfl rfl (GW.at (a := 0) (k := 4) (b := 12) hG (by decide)) ?_
    refine Pv.getI (z := h_i S) rfl rfl (hS.i) ?_
    exact Pv.ret rfl (by rw [hQ]; exact ⟨rfl, rfl⟩)
  · refine Pv.tab (t := 94) rfl rfl ?_
    refine Pv.aload rfl rfl ?_
    refine Pv.getR (v := .ref 12) rfl rfl (GW.at (a := 0) (k := 4) (b := 12) hG (by decide)) ?_
    refine Pv.getI (z := h_r S) rfl rfl (hS.r) ?_
    exact Pv.ret rfl (by rw [hQ]; exact ⟨rfl, rfl⟩)
  · refine Pv.tab (t := 102) rfl rfl ?_
    refine Pv.aload rfl rfl ?_
    refine Pv.getR (v := .ref 12) rfl rfl (GW.at (a := 0) (k := 4) (b := 12) hG (by decide)) ?_
    refine Pv.callVI (as := [.ref 12]) (rest := []) (z := m_sum (h_u S) 12) rfl rfl rfl (f_hungerInAll hS) ?_
    exact Pv.ret rfl (by rw [hQ]; exact ⟨rfl, rfl⟩)
  · refine Pv.tab (t := 110) rfl (nd_tab hw (by decide)) ?_
    refine Pv.lit rfl ?_
    exact Pv.ret rfl (by rw [hQ]; exact ⟨by unfold a_now; rw [hw], rfl⟩)
set_option maxRecDepth 100000 in
set_option maxHeartbeats 4000000 in
theorem o_going {F : FW} {t : Nat} {T : St} {S : Sh} (hG : GW F) (ht : F.2.1 0 13 = .ref t) (hT : TR F t T) (hS : SHR F 12 (t_m T) S) (j0 : t = 45 ∨ t = 53) : Pm Z_X10_going [.ref 0] F (fun r F' => r = some (.int (a_going T S)) ∧ CDR F F') := by
  refine Pm.of fun N => ?_
  obtain ⟨Q, hQ⟩ : ∃ Q : Option Value → FW → Prop, Q = (fun r F' => r = some (.int (a_going T S)) ∧ CDR F F') := ⟨_, rfl⟩
  rw [← hQ]
  have b3 := hT.mb
  have b4 := hT.nb
  have b5 := hT.gb
  have b6 := m_from_lt S
  have b7 := hS.db
  refine (show Pv (ab_T (L_X10_going Z_X1_plan)) N 0 [some (.ref 0)] [] F Q from ?_)
  refine Pv.aload rfl rfl ?_
  refine Pv.getR (v := .ref 7) rfl rfl (GW.at (a := 0) (k := 2) (b := 7) hG (by decide)) ?_
  refine Pv.aload rfl rfl ?_
  refine Pv.getR (v := .ref t) rfl rfl (ht) ?_
  refine Pv.aload rfl rfl ?_
  refine Pv.getR (v := .ref 12) rfl rfl (GW.at (a := 0) (k := 4) (b := 12) hG (by decide)) ?_
  refine Pv.callV (as := [.ref 7, .ref t, .ref 12]) (rest := []) rfl rfl rfl (f_plan hT hS hG (by omega) (by omega)) ?_
  rintro _ G1 ⟨rfl, x2, pl4⟩
  have hx3 := FX.tr (P := fun q => (7 ≤ q ∧ q ≤ 9) ∨ (20 ≤ q ∧ q ≤ 35) ∨ q = 40 ∨ q = 43) FX.rf (x2.wd (fun q (c : 7 ≤ q ∧ q ≤ 9) => (show (7 ≤ q ∧ q ≤ 9) ∨ (20 ≤ q ∧ q ≤ 35) ∨ q = 40 ∨ q = 43 by omega)))
  have hx5 := hT.fx (P := fun q => 7 ≤ q ∧ q ≤ 9) x2 (fun q h1 h2 (c : 7 ≤ q ∧ q ≤ 9) => by omega)
  have hx6 := hS.fx (P := fun q => 7 ≤ q ∧ q ≤ 9) x2 (fun q h1 h2 (c : 7 ≤ q ∧ q ≤ 9) => by omega)
  have hx7 := hG.fx (P := fun q => 7 ≤ q ∧ q ≤ 9) x2
  have hr8 : G1.2.1 0 13 = .ref t := by rw [x2.2.2.1]; exact ht
  have hr9 : G1.2.1 0 13 = .ref t := by rw [x2.2.2.1]; exact ht
  refine (show Pv _ _ 15 [some (.ref 0)] [] G1 Q from ?_)
  refine Pv.aload rfl rfl ?_
  refine Pv.getR (v := .ref 7) rfl rfl (GW.at (a := 0) (k := 2) (b := 7) hx7 (by decide)) ?_
  refine Pv.getI (z := m_board T S) rfl rfl (pl4.1) ?_
  exact Pv.ret rfl (by rw [hQ]; exact ⟨rfl, hx3⟩)
set_option maxRecDepth 100000 in
set_option maxHeartbeats 4000000 in
theorem o_goes {F : FW} {t : Nat} {T : St} {S : Sh} (hG : GW F) (ht : F.2.1 0 13 = .ref t) (hT : TR F t T) (hS : SHR F 12 (t_m T) S) (j0 : t = 45 ∨ t = 53) (x : Int32) : Pm Z_X10_goes [.ref 0, .int x] F (fun r F' => r = some (.int (a_goes T S x)) ∧ CDR F F') := by
  refine Pm.of fun N => ?_
  obtain ⟨Q, hQ⟩ : ∃ Q : Option Value → FW → Prop, Q = (fun r F' => r = some (.int (a_goes T S x)) ∧ CDR F F') := ⟨_, rfl⟩
  rw [← hQ]
  have b3 := hT.mb
  have b4 := hT.nb
  have b5 := hT.gb
  have b6 := m_from_lt S
  have b7 := hS.db
  refine (show Pv (ab_T (L_X10_goes Z_X10_isGood Z_X1_plan)) N 0 [some (.ref 0), some (.int x)] [] F Q from ?_)
  refine Pv.aload rfl rfl ?_
  refine Pv.iload rfl rfl ?_
  refine Pv.callVI (as := [.ref 0, .int x]) (rest := []) (z := b2i (nd (t_g T) x).isSome) rfl rfl rfl (o_isGood hG ht hT hS j0 x) ?_
  refine Pv.if0 rfl (fun c1 => ?_) (fun c1 => ?_)
  · skip
    replace c1 : decide (b2i (nd (t_g T) x).isSome = 0) = false := by simpa using c1
    replace c1 := of_decide_eq_false c1
    replace c1 := b2n.mp c1
    obtain ⟨g, hg, hgl, rfl⟩ := nd_t c1
    refine Pv.aload rfl rfl ?_
    refine Pv.getR (v := .ref 7) rfl rfl (GW.at (a := 0) (k := 2) (b := 7) hG (by decide)) ?_
    refine Pv.aload rfl rfl ?_
    refine Pv.getR (v := .ref t) rfl rfl (ht) ?_
    refine Pv.aload rfl rfl ?_
    refine Pv.getR (v := .ref 12) rfl rfl (GW.at (a := 0) (k := 4) (b := 12) hG (by decide)) ?_
    refine Pv.callV (as := [.ref 7, .ref t, .ref 12]) (rest := []) rfl rfl rfl (f_plan hT hS hG (by omega) (by omega)) ?_
    rintro _ G2 ⟨rfl, x3, pl5⟩
    have hx4 := FX.tr (P := fun q => (7 ≤ q ∧ q ≤ 9) ∨ (20 ≤ q ∧ q ≤ 35) ∨ q = 40 ∨ q = 43) FX.rf (x3.wd (fun q (c : 7 ≤ q ∧ q ≤ 9) => (show (7 ≤ q ∧ q ≤ 9) ∨ (20 ≤ q ∧ q ≤ 35) ∨ q = 40 ∨ q = 43 by omega)))
    have hx6 := hT.fx (P := fun q => 7 ≤ q ∧ q ≤ 9) x3 (fun q h1 h2 (c : 7 ≤ q ∧ q ≤ 9) => by omega)
    have hx7 := hS.fx (P := fun q => 7 ≤ q ∧ q ≤ 9) x3 (fun q h1 h2 (c : 7 ≤ q ∧ q ≤ 9) => by omega)
    have hx8 := hG.fx (P := fun q => 7 ≤ q ∧ q ≤ 9) x3
    have hr9 : G2.2.1 0 13 = .ref t := by rw [x3.2.2.1]; exact ht
    have hr10 : G2.2.1 0 13 = .ref t := by rw [x3.2.2.1]; exact ht
    refine (show Pv _ _ 25 [some (.ref 0), some (.int (Int32.ofNat g))] [] G2 Q from ?_)
    refine Pv.aload rfl rfl ?_
    refine Pv.getR (v := .ref 7) rfl rfl (GW.at (a := 0) (k := 2) (b := 7) hx8 (by decide)) ?_
    refine Pv.getR (v := .ref 8) rfl rfl (GW.at (a := 7) (k := 0) (b := 8) hx8 (by decide)) ?_
    refine Pv.iload rfl rfl ?_
    refine Pv.ald (z := m_fr T S g) rfl (by rw [i_toNat (by omega)]; exact pl5.2.2.1 _ (by omega)) ?_
    exact Pv.ret rfl (by rw [hQ]; exact ⟨by unfold a_goes; rw [hg], hx4⟩)
  · skip
    replace c1 : decide (b2i (nd (t_g T) x).isSome = 0) = true := by simpa using c1
    replace c1 := of_decide_eq_true c1
    replace c1 := b2z.mp c1
    refine Pv.lit rfl ?_
    exact Pv.ret rfl (by rw [hQ]; exact ⟨by unfold a_goes; rw [nd_f c1], FX.rf⟩)
end
-- 63.b52.or.lean.txt
section
set_option maxRecDepth 100000 in
set_option maxHeartbeats 4000000 in
theorem q_isIn {F : FW} (x y z : Int32) : Pm Z_X11_isIn [.int x, .int y, .int z] F (fun r F' => r = some (.int (b2i (decide (y ≤ x) && decide (x ≤ z)))) ∧ F' = F) := by
  refine Pm.of fun N => ?_
  obtain ⟨Q, hQ⟩ : ∃ Q : Option Value → FW → Prop, Q = (fun r F' => r = some (.int (b2i (decide (y ≤ x) && decide (x ≤ z)))) ∧ F' = F) := ⟨_, rfl⟩
  rw [← hQ]
  refine (show Pv (ab_T L_X11_isIn) N 0 [some (.int x), some (.int y), some (.int z)] [] F Q from ?_)
  refine Pv.iload rfl rfl ?_
  refine Pv.iload rfl rfl ?_
  refine Pv.icmp rfl (fun c1 => ?_) (fun c1 => ?_)
  · skip
    replace c1 := of_decide_eq_true c1
    refine Pv.lit rfl ?_
    exact Pv.zret rfl (by rw [hQ]; exact ⟨b2_f (by rw [decide_eq_false (Int32.not_le.mpr c1)]; rfl), rfl⟩)
  · skip
    replace c1 := of_decide_eq_false c1
    refine Pv.iload rfl rfl ?_
    refine Pv.iload rfl rfl ?_
    refine Pv.icmp rfl (fun c2 => ?_) (fun c2 => ?_)
    · skip
      replace c2 := of_decide_eq_true c2
      refine Pv.lit rfl ?_
      exact Pv.zret rfl (by rw [hQ]; exact ⟨b2_f (by rw [decide_eq_false (Int32.not_le.mpr c2), Bool.and_false]), rfl⟩)
    · skip
      replace c2 := of_decide_eq_false c2
      refine Pv.lit rfl ?_
      refine Pv.goto rfl ?_
      exact Pv.zret rfl (by rw [hQ]; exact ⟨b2_t (by rw [decide_eq_true (Int32.not_lt.mp c1), decide_eq_true (Int32.not_lt.mp c2)]; rfl), rfl⟩)
set_option maxRecDepth 100000 in
set_option maxHeartbeats 4000000 in
theorem q_isGood {F : FW} {T : St} (hT : XT F T) (hG : GW F) (x : Int32) : Pm Z_X11_isGood [.ref 69, .int x] F (fun r F' => r = some (.int (b2i (nd (t_g T) x).isSome)) ∧ F' = F) := by
  refine Pm.of fun N => ?_
  obtain ⟨Q, hQ⟩ : ∃ Q : Option Value → FW → Prop, Q = (fun r F' => r = some (.int (b2i (nd (t_g T) x).isSome)) ∧ F' = F) := ⟨_, rfl⟩
  rw [← hQ]
  have b5 := hT.gb
  refine (show Pv (ab_T (L_X11_isGood Z_X11_isIn)) N 0 [some (.ref 69), some (.int x)] [] F Q from ?_)
  refine Pv.iload rfl rfl ?_
  refine Pv.lit rfl ?_
  refine Pv.aload rfl rfl ?_
  refine Pv.getR (v := .ref 71) rfl rfl (GW.at (a := 69) (k := 6) (b := 71) hG (by decide)) ?_
  refine Pv.lit rfl ?_
  refine Pv.ald (z := Int32.ofNat (t_g T)) rfl (hT.g) ?_
  refine Pv.lit rfl ?_
  refine Pv.bin (z := (Int32.ofNat (t_g T)) - 1) rfl (rfl) ?_
  refine Pv.callI (as := [.int x, .int 0, .int ((Int32.ofNat (t_g T)) - 1)]) (rest := []) (z := b2i (decide (0 ≤ x) && decide (x ≤ ((Int32.ofNat (t_g T)) - 1)))) rfl rfl rfl (q_isIn x 0 ((Int32.ofNat (t_g T)) - 1)) ?_
  exact Pv.zret rfl (by rw [hQ]; exact ⟨by rw [← nd_in (by omega)]; try rfl, rfl⟩)
set_option maxRecDepth 100000 in
set_option maxHeartbeats 4000000 in
theorem q_isMan {F : FW} {T : St} (hT : XT F T) (hG : GW F) (x : Int32) : Pm Z_X11_isMan [.ref 69, .int x] F (fun r F' => r = some (.int (b2i (nd (t_m T) x).isSome)) ∧ F' = F) := by
  refine Pm.of fun N => ?_
  obtain ⟨Q, hQ⟩ : ∃ Q : Option Value → FW → Prop, Q = (fun r F' => r = some (.int (b2i (nd (t_m T) x).isSome)) ∧ F' = F) := ⟨_, rfl⟩
  rw [← hQ]
  have b3 := hT.mb
  refine (show Pv (ab_T (L_X11_isMan Z_X11_isIn)) N 0 [some (.ref 69), some (.int x)] [] F Q from ?_)
  refine Pv.iload rfl rfl ?_
  refine Pv.lit rfl ?_
  refine Pv.aload rfl rfl ?_
  refine Pv.getR (v := .ref 71) rfl rfl (GW.at (a := 69) (k := 6) (b := 71) hG (by decide)) ?_
  refine Pv.lit rfl ?_
  refine Pv.ald (z := Int32.ofNat (t_m T)) rfl (hT.m) ?_
  refine Pv.lit rfl ?_
  refine Pv.bin (z := (Int32.ofNat (t_m T)) - 1) rfl (rfl) ?_
  refine Pv.callI (as := [.int x, .int 0, .int ((Int32.ofNat (t_m T)) - 1)]) (rest := []) (z := b2i (decide (0 ≤ x) && decide (x ≤ ((Int32.ofNat (t_m T)) - 1)))) rfl rfl rfl (q_isIn x 0 ((Int32.ofNat (t_m T)) - 1)) ?_
  exact Pv.zret rfl (by rw [hQ]; exact ⟨by rw [← nd_in (by omega)]; try rfl, rfl⟩)
set_option maxRecDepth 100000 in
set_option maxHeartbeats 4000000 in
theorem q_isShore {F : FW} (x : Int32) : Pm Z_X11_isShore [.ref 69, .int x] F (fun r F' => r = some (.int (b2i (nd 2 x).isSome)) ∧ F' = F) := by
  refine Pm.of fun N => ?_
  obtain ⟨Q, hQ⟩ : ∃ Q : Option Value → FW → Prop, Q = (fun r F' => r = some (.int (b2i (nd 2 x).isSome)) ∧ F' = F) := ⟨_, rfl⟩
  rw [← hQ]
  refine (show Pv (ab_T (L_X11_isShore Z_X11_isIn)) N 0 [some (.ref 69), some (.int x)] [] F Q from ?_)
  refine Pv.iload rfl rfl ?_
  refine Pv.lit rfl ?_
  refine Pv.lit rfl ?_
  refine Pv.callI (as := [.int x, .int 0, .int 1]) (rest := []) (z := b2i (decide (0 ≤ x) && decide (x ≤ 1))) rfl rfl rfl (q_isIn x 0 1) ?_
  exact Pv.zret rfl (by rw [hQ]; exact ⟨by rw [← nd_in (by omega)]; rfl, rfl⟩)
set_option maxRecDepth 100000 in
set_option maxHeartbeats 4000000 in
theorem q_isPlace {F : FW} {T : St} (hT : XT F T) (hG : GW F) (x y : Int32) : Pm Z_X11_isPlace [.ref 69, .int x, .int y] F (fun r F' => r = some (.int (b2i ((nd (t_g T) x).isSome && (nd 2 y).isSome))) ∧ F' = F) := by
  refine Pm.of fun N => ?_
  obtain ⟨Q, hQ⟩ : ∃ Q : Option Value → FW → Prop, Q = (fun r F' => r = some (.int (b2i ((nd (t_g T) x).isSome && (nd 2 y).isSome))) ∧ F' = F) := ⟨_, rfl⟩
  rw [← hQ]
  refine (show Pv (ab_T (L_X11_isPlace Z_X11_isGood Z_X11_isShore)) N 0 [some (.ref 69), some (.int x), some (.int y)] [] F Q from ?_)
  refine Pv.aload rfl rfl ?_
  refine Pv.iload rfl rfl ?_
  refine Pv.callVI (as := [.ref 69, .int x]) (rest := []) (z := b2i (nd (t_g T) x).isSome) rfl rfl rfl (q_isGood hT hG x) ?_
  refine Pv.if0 rfl (fun c1 => ?_) (fun c1 => ?_)
  · skip
    replace c1 := of_decide_eq_true c1
    replace c1 := b2z.mp c1
    refine Pv.lit rfl ?_
    exact Pv.zret rfl (by rw [hQ]; exact ⟨b2_f (by simp [c1]), rfl⟩)
  · skip
    replace c1 := of_decide_eq_false c1
    replace c1 := b2n.mp c1
    refine Pv.aload rfl rfl ?_
    refine Pv.iload rfl rfl ?_
    refine Pv.callVI (as := [.ref 69, .int y]) (rest := []) (z := b2i (nd 2 y).isSome) rfl rfl rfl (q_isShore y) ?_
    refine Pv.if0 rfl (fun c2 => ?_) (fun c2 => ?_)
    · skip
      replace c2 := of_decide_eq_true c2
      replace c2 := b2z.mp c2
      refine Pv.lit rfl ?_
      exact Pv.zret rfl (by rw [hQ]; exact ⟨b2_f (by simp [c1, c2]), rfl⟩)
    · skip
      replace c2 := of_decide_eq_false c2
      replace c2 := b2n.mp c2
      refine Pv.lit rfl ?_
      refine Pv.goto rfl ?_
      exact Pv.zret rfl (by rw [hQ]; exact ⟨b2_t (by simp [c1, c2]), rfl⟩)
set_option maxRecDepth 100000 in
set_option maxHeartbeats 4000000 in
theorem q_isFalse {F : FW} {g s : Nat} {w x y : Int32} (hG : GW F) (hb : g < 1000) (hb2 : s < 1000) (h1 : F.1 71 (16 + (2 * g + s)) = w) (h2 : F.1 71 (124 + (2 * g + s)) = x) (h3 : F.1 71 (136 + (2 * g + s)) = y) : Pm Z_X11_isFalse [.ref 69, .int (Int32.ofNat g), .int (Int32.ofNat s)] F (fun r F' => r = some (.int (b2i (m_falser w x y))) ∧ F' = F) := by
  refine Pm.of fun N => ?_
  obtain ⟨Q, hQ⟩ : ∃ Q : Option Value → FW → Prop, Q = (fun r F' => r = some (.int (b2i (m_falser w x y))) ∧ F' = F) := ⟨_, rfl⟩
  rw [← hQ]
  refine (show Pv (ab_T (L_X11_isFalse Z_X11_lackOf Z_X11_cell)) N 0 [some (.ref 69), some (.int (Int32.ofNat g)), some (.int (Int32.ofNat s))] [] F Q from ?_)
  refine Pv.aload rfl rfl ?_
  refine Pv.iload rfl rfl ?_
  refine Pv.iload rfl rfl ?_
  refine Pv.callVI (as := [.ref 69, .int (Int32.ofNat g), .int (Int32.ofNat s)]) (rest := []) (z := m_lackr w x) rfl rfl rfl (g_lackOf (g := g) (s := s) (w := w) (x := x) hG (by omega) (by omega) (h1) (h2)) ?_
  refine Pv.if0 rfl (fun c1 => ?_) (fun c1 => ?_)
  · skip
    replace c1 := of_decide_eq_true c1
    refine Pv.lit rfl ?_
    exact Pv.zret rfl (by rw [hQ]; exact ⟨b2_f (by unfold m_falser; simp [c1]), rfl⟩)
  · skip
    replace c1 := of_decide_eq_false c1
    refine Pv.aload rfl rfl ?_
    refine Pv.iload rfl rfl ?_
    refine Pv.iload rfl rfl ?_
    refine Pv.callVI (as := [.ref 69, .int (Int32.ofNat g), .int (Int32.ofNat s)]) (rest := []) (z := m_lackr w x) rfl rfl rfl (g_lackOf (g := g) (s := s) (w := w) (x := x) hG (by omega) (by omega) (h1) (h2)) ?_
    refine Pv.aload rfl rfl ?_
    refine Pv.getR (v := .ref 71) rfl rfl (GW.at (a := 69) (k := 6) (b := 71) hG (by decide)) ?_
    refine Pv.lit rfl ?_
    refine Pv.iload rfl rfl ?_
    refine Pv.iload rfl rfl ?_
    refine Pv.callI (as := [.int (Int32.ofNat g), .int (Int32.ofNat s)]) (rest := [.int 136, .ref 71, .int (m_lackr w x)]) (z := Int32.ofNat (2 * g + s)) rfl rfl rfl (g_cell (g := g) (s := s)) ?_
    refine Pv.bin (z := Int32.ofNat (136 + (2 * g + s))) rfl (i_add 136 (2 * g + s)) ?_
    refine Pv.ald (z := y) rfl (by rw [i_toNat (by omega)]; exact h3) ?_
    refine Pv.icmp rfl (fun c2 => ?_) (fun c2 => ?_)
    · skip
      replace c2 := of_decide_eq_true c2
      refine Pv.lit rfl ?_
      exact Pv.zret rfl (by rw [hQ]; exact ⟨b2_f (by unfold m_falser; simp [c1, Int32.not_le.mpr c2]), rfl⟩)
    · skip
      replace c2 := of_decide_eq_false c2
      refine Pv.lit rfl ?_
      refine Pv.goto rfl ?_
      exact Pv.zret rfl (by rw [hQ]; exact ⟨b2_t (by unfold m_falser; simp [c1, Int32.not_lt.mp c2]), rfl⟩)
set_option maxRecDepth 100000 in
set_option maxHeartbeats 4000000 in
theorem q_good {F : FW} {T : St} {S : Sh} (hT : XT F T) (hS : XS F (t_m T) S) (hG : GW F) (hTB : TBB T) (hSB : SB S) (hHB : HB S) (x y w : Int32) : Pm Z_X11_good [.ref 69, .int x, .int y, .int w] F (fun r F' => r = some (.int (a_good T S x y w)) ∧ RDR F F') := by
  refine Pm.of fun N => ?_
  obtain ⟨Q, hQ⟩ : ∃ Q : Option Value → FW → Prop, Q = (fun r F' => r = some (.int (a_good T S x y w)) ∧ RDR F F') := ⟨_, rfl⟩
  rw [← hQ]
  have b3 := hT.mb
  have b4 := hT.nb
  have b5 := hT.gb
  have b6 := m_from_lt S
  have b7 := hS.db
  refine (show Pv (ab_T (L_X11_good Z_X11_isPlace Z_X11_cell Z_X11_lackOf Z_X11_isFalse)) N 0 [some (.ref 69), some (.int x), some (.int y), some (.int w), none] [] F Q from ?_)
  refine Pv.aload rfl rfl ?_
  refine Pv.lit rfl ?_
  refine Pv.putI rfl rfl ?_
  refine Pv.aload rfl rfl ?_
  refine Pv.iload rfl rfl ?_
  refine Pv.iload rfl rfl ?_
  refine Pv.callVI (as := [.ref 69, .int x, .int y]) (rest := []) (z := b2i ((nd (t_g T) x).isSome && (nd 2 y).isSome)) rfl rfl rfl (q_isPlace (hT.fx (P := fun q => q = 69) (((FX.rf (P := fun q => q = 69))).fp rfl) (by decide)) (hG.fx (P := fun _ => True) (((FX.rf (P := fun _ => True))).fp trivial)) x y) ?_
  refine Pv.if0 rfl (fun c1 => ?_) (fun c1 => ?_)
  · skip
    replace c1 : decide (b2i ((nd (t_g T) x).isSome && (nd 2 y).isSome) = 0) = false := by simpa using c1
    replace c1 := of_decide_eq_false c1
    replace c1 := b2n.mp c1
    obtain ⟨g, s, hg, hs, hgl, hsl, rfl, rfl⟩ := gs_t c1
    refine Pv.iload rfl rfl ?_
    refine Pv.iload rfl rfl ?_
    refine Pv.callI (as := [.int (Int32.ofNat g), .int (Int32.ofNat s)]) (rest := []) (z := Int32.ofNat (2 * g + s)) rfl rfl rfl (g_cell (g := g) (s := s)) ?_
    refine Pv.istore (lo' := [some (.ref 69), some (.int (Int32.ofNat g)), some (.int (Int32.ofNat s)), some (.int w), some (.int (Int32.ofNat (2 * g + s)))]) rfl rfl ?_
    refine Pv.iload rfl rfl ?_
    rcases nd_8 w with rfl | rfl | rfl | rfl | rfl | rfl | rfl | rfl | hw
    · refine Pv.tab (t := 72) rfl rfl ?_
      refine Pv.aload rfl rfl ?_
      refine Pv.getR (v := .ref 71) rfl rfl (GW.at (a := 69) (k := 6) (b := 71) hG (by decide)) ?_
      refine Pv.lit rfl ?_
      refine Pv.iload rfl rfl ?_
      refine Pv.bin (z := Int32.ofNat (124 + (2 * g + s))) rfl (i_add 124 (2 * g + s)) ?_
      refine Pv.ald (z := h_s S (2 * g + s)) rfl (by rw [i_toNat (by omega)]; exact (fp_ne (Or.inl (by decide))).trans (hS.s _ (by omega))) ?_
      exact Pv.ret rfl (by rw [hQ]; exact ⟨by unfold a_good; rw [aGS_t hg hs]; try rfl, (RDR.rf).fp (Or.inl rfl)⟩)
    · refine Pv.tab (t := 83) rfl rfl ?_
      refine Pv.aload rfl rfl ?_
      refine Pv.getR (v := .ref 71) rfl rfl (GW.at (a := 69) (k := 6) (b := 71) hG (by decide)) ?_
      refine Pv.lit rfl ?_
      refine Pv.iload rfl rfl ?_
      refine Pv.bin (z := Int32.ofNat (136 + (2 * g + s))) rfl (i_add 136 (2 * g + s)) ?_
      refine Pv.ald (z := h_h S (2 * g + s)) rfl (by rw [i_toNat (by omega)]; exact (fp_ne (Or.inl (by decide))).trans (hS.h _ (by omega))) ?_
      exact Pv.ret rfl (by rw [hQ]; exact ⟨by unfold a_good; rw [aGS_t hg hs]; try rfl, (RDR.rf).fp (Or.inl rfl)⟩)
    · refine Pv.tab (t := 95) rfl rfl ?_
      refine Pv.aload rfl rfl ?_
      refine Pv.getR (v := .ref 71) rfl rfl (GW.at (a := 69) (k := 6) (b := 71) hG (by decide)) ?_
      refine Pv.lit rfl ?_
      refine Pv.iload rfl rfl ?_
      refine Pv.bin (z := Int32.ofNat (16 + (2 * g + s))) rfl (i_add 16 (2 * g + s)) ?_
      refine Pv.ald (z := t_a T (1 * 12 + (2 * g + s))) rfl (by rw [i_toNat (by omega)]; exact (fp_ne (Or.inl (by decide))).trans (hT.wa _ (by omega))) ?_
      exact Pv.ret rfl (by rw [hQ]; exact ⟨by unfold a_good; rw [aGS_t hg hs]; try rfl, (RDR.rf).fp (Or.inl rfl)⟩)
    · refine Pv.tab (t := 106) rfl rfl ?_
      refine Pv.aload rfl rfl ?_
      refine Pv.getR (v := .ref 71) rfl rfl (GW.at (a := 69) (k := 6) (b := 71) hG (by decide)) ?_
      refine Pv.lit rfl ?_
      refine Pv.iload rfl rfl ?_
      refine Pv.bin (z := Int32.ofNat (28 + (2 * g + s))) rfl (i_add 28 (2 * g + s)) ?_
      refine Pv.ald (z := t_a T (24 + (2 * g + s))) rfl (by rw [i_toNat (by omega)]; exact (fp_ne (Or.inl (by decide))).trans (hT.e _ (by omega))) ?_
      exact Pv.ret rfl (by rw [hQ]; exact ⟨by unfold a_good; rw [aGS_t hg hs]; try rfl, (RDR.rf).fp (Or.inl rfl)⟩)
    · refine Pv.tab (t := 117) rfl rfl ?_
      refine Pv.aload rfl rfl ?_
      refine Pv.getR (v := .ref 71) rfl rfl (GW.at (a := 69) (k := 6) (b := 71) hG (by decide)) ?_
      refine Pv.lit rfl ?_
      refine Pv.iload rfl rfl ?_
      refine Pv.bin (z := Int32.ofNat (40 + (2 * g + s))) rfl (i_add 40 (2 * g + s)) ?_
      refine Pv.ald (z := t_a T (36 + (2 * g + s))) rfl (by rw [i_toNat (by omega)]; exact (fp_ne (Or.inl (by decide))).trans (hT.k _ (by omega))) ?_
      exact Pv.ret rfl (by rw [hQ]; exact ⟨by unfold a_good; rw [aGS_t hg hs]; try rfl, (RDR.rf).fp (Or.inl rfl)⟩)
    · refine Pv.tab (t := 128) rfl rfl ?_
      refine Pv.aload rfl rfl ?_
      refine Pv.iload rfl rfl ?_
      refine Pv.iload rfl rfl ?_
      refine Pv.callVI (as := [.ref 69, .int (Int32.ofNat g), .int (Int32.ofNat s)]) (rest := []) (z := m_lackr (t_a T (1 * 12 + (2 * g + s))) (h_s S (2 * g + s))) rfl rfl rfl (g_lackOf (g := g) (s := s) (w := t_a T (1 * 12 + (2 * g + s))) (x := h_s S (2 * g + s)) (hG.fx (P := fun _ => True) (((FX.rf (P := fun _ => True))).fp trivial)) (by omega) (by omega) ((fp_ne (Or.inl (by decide))).trans (hT.wa _ (by omega))) ((fp_ne (Or.inl (by decide))).trans (hS.s _ (by omega)))) ?_
      exact Pv.ret rfl (by rw [hQ]; exact ⟨by unfold a_good; rw [aGS_t hg hs]; exact congrArg (fun z => some (Value.int z)) lackr_eq, (RDR.rf).fp (Or.inl rfl)⟩)
    · refine Pv.tab (t := 135) rfl rfl ?_
      refine Pv.aload rfl rfl ?_
      refine Pv.iload rfl rfl ?_
      refine Pv.iload rfl rfl ?_
      refine Pv.callVI (as := [.ref 69, .int (Int32.ofNat g), .int (Int32.ofNat s)]) (rest := []) (z := b2i (m_falser (t_a T (1 * 12 + (2 * g + s))) (h_s S (2 * g + s)) (h_h S (2 * g + s)))) rfl rfl rfl (q_isFalse (g := g) (s := s) (w := t_a T (1 * 12 + (2 * g + s))) (x := h_s S (2 * g + s)) (y := h_h S (2 * g + s)) (hG.fx (P := fun _ => True) (((FX.rf (P := fun _ => True))).fp trivial)) (by omega) (by omega) ((fp_ne (Or.inl (by decide))).trans (hT.wa _ (by omega))) ((fp_ne (Or.inl (by decide))).trans (hS.s _ (by omega))) ((fp_ne (Or.inl (by decide))).trans (hS.h _ (by omega)))) ?_
      refine Pv.if0 rfl (fun c2 => ?_) (fun c2 => ?_)
      · skip
        replace c2 := of_decide_eq_true c2
        replace c2 := b2z.mp c2
        refine Pv.lit rfl ?_
        exact Pv.ret rfl (by rw [hQ]; exact ⟨by unfold a_good; rw [aGS_t hg hs]; show _ = some (Value.int (b2i (m_false T S (2 * g + s)))); rw [m_false_eq hTB hSB hHB b7 (by omega)]; exact b2_f c2, (RDR.rf).fp (Or.inl rfl)⟩)
      · skip
        replace c2 := of_decide_eq_false c2
        replace c2 := b2n.mp c2
        refine Pv.lit rfl ?_
        refine Pv.goto rfl ?_
        exact Pv.ret rfl (by rw [hQ]; exact ⟨by unfold a_good; rw [aGS_t hg hs]; show _ = some (Value.int (b2i (m_false T S (2 * g + s)))); rw [m_false_eq hTB hSB hHB b7 (by omega)]; exact b2_t c2, (RDR.rf).fp (Or.inl rfl)⟩)
    · refine Pv.tab (t := 150) rfl rfl ?_
      refine Pv.aload rfl rfl ?_
      refine Pv.getR (v := .ref 71) rfl rfl (GW.at (a := 69) (k := 6) (b := 71) hG (by decide)) ?_
      refine Pv.lit rfl ?_
      refine Pv.iload rfl rfl ?_
      refine Pv.bin (z := Int32.ofNat (148 + (2 * g + s))) rfl (i_add 148 (2 * g + s)) ?_
      refine Pv.ald (z := h_u S (2 * g + s)) rfl (by rw [i_toNat (by omega)]; exact (fp_ne (Or.inl (by decide))).trans (hS.u _ (by omega))) ?_
      exact Pv.ret rfl (by rw [hQ]; exact ⟨by unfold a_good; rw [aGS_t hg hs]; try rfl, (RDR.rf).fp (Or.inl rfl)⟩)
    · refine Pv.tab (t := 162) rfl (nd_tab hw (by decide)) ?_
      refine Pv.lit rfl ?_
      exact Pv.ret rfl (by rw [hQ]; exact ⟨by unfold a_good; rw [aGS_t hg hs, hw], (RDR.rf).fp (Or.inl rfl)⟩)
  · skip
    replace c1 : decide (b2i ((nd (t_g T) x).isSome && (nd 2 y).isSome) = 0) = true := by simpa using c1
    replace c1 := of_decide_eq_true c1
    replace c1 := b2z.mp c1
    refine Pv.lit rfl ?_
    exact Pv.ret rfl (by rw [hQ]; exact ⟨by unfold a_good; rw [aGS_f c1], (RDR.rf).fp (Or.inl rfl)⟩)
set_option maxRecDepth 100000 in
set_option maxHeartbeats 4000000 in
theorem q_crossed {F : FW} {T : St} {S : Sh} (hT : XT F T) (hS : XS F (t_m T) S) (hG : GW F) (x y : Int32) : Pm Z_X11_crossed [.ref 69, .int x, .int y] F (fun r F' => r = some (.int (a_crossed T S x y)) ∧ RDR F F') := by
  refine Pm.of fun N => ?_
  obtain ⟨Q, hQ⟩ : ∃ Q : Option Value → FW → Prop, Q = (fun r F' => r = some (.int (a_crossed T S x y)) ∧ RDR F F') := ⟨_, rfl⟩
  rw [← hQ]
  have b3 := hT.mb
  have b4 := hT.nb
  have b5 := hT.gb
  have b6 := m_from_lt S
  have b7 := hS.db
  refine (show Pv (ab_T (L_X11_crossed Z_X11_isPlace Z_X11_cell)) N 0 [some (.ref 69), some (.int x), some (.int y)] [] F Q from ?_)
  refine Pv.aload rfl rfl ?_
  refine Pv.lit rfl ?_
  refine Pv.putI rfl rfl ?_
  refine Pv.aload rfl rfl ?_
  refine Pv.iload rfl rfl ?_
  refine Pv.iload rfl rfl ?_
  refine Pv.callVI (as := [.ref 69, .int x, .int y]) (rest := []) (z := b2i ((nd (t_g T) x).isSome && (nd 2 y).isSome)) rfl rfl rfl (q_isPlace (hT.fx (P := fun q => q = 69) (((FX.rf (P := fun q => q = 69))).fp rfl) (by decide)) (hG.fx (P := fun _ => True) (((FX.rf (P := fun _ => True))).fp trivial)) x y) ?_
  refine Pv.if0 rfl (fun c1 => ?_) (fun c1 => ?_)
  · skip
    replace c1 := of_decide_eq_true c1
    replace c1 := b2z.mp c1
    refine Pv.lit rfl ?_
    exact Pv.ret rfl (by rw [hQ]; exact ⟨by unfold a_crossed; rw [aGS_f c1], (RDR.rf).fp (Or.inl rfl)⟩)
  · skip
    replace c1 := of_decide_eq_false c1
    replace c1 := b2n.mp c1
    obtain ⟨g, s, hg, hs, hgl, hsl, rfl, rfl⟩ := gs_t c1
    refine Pv.aload rfl rfl ?_
    refine Pv.getR (v := .ref 71) rfl rfl (GW.at (a := 69) (k := 6) (b := 71) hG (by decide)) ?_
    refine Pv.lit rfl ?_
    refine Pv.iload rfl rfl ?_
    refine Pv.iload rfl rfl ?_
    refine Pv.callI (as := [.int (Int32.ofNat g), .int (Int32.ofNat s)]) (rest := [.int 160, .ref 71]) (z := Int32.ofNat (2 * g + s)) rfl rfl rfl (g_cell (g := g) (s := s)) ?_
    refine Pv.bin (z := Int32.ofNat (160 + (2 * g + s))) rfl (i_add 160 (2 * g + s)) ?_
    refine Pv.ald (z := h_c S (2 * g + s)) rfl (by rw [i_toNat (by omega)]; exact (fp_ne (Or.inl (by decide))).trans (hS.c _ (by omega))) ?_
    refine Pv.goto rfl ?_
    exact Pv.ret rfl (by rw [hQ]; exact ⟨by unfold a_crossed; rw [aGS_t hg hs]; try rfl, (RDR.rf).fp (Or.inl rfl)⟩)
set_option maxRecDepth 100000 in
set_option maxHeartbeats 4000000 in
theorem q_lacks {F : FW} {T : St} {S : Sh} (hT : XT F T) (hS : XS F (t_m T) S) (hG : GW F) (y : Int32) : Pm Z_X11_lacks [.ref 69, .int y] F (fun r F' => r = some (.int (a_lacks T S y)) ∧ RDR F F') := by
  refine Pm.of fun N => ?_
  obtain ⟨Q, hQ⟩ : ∃ Q : Option Value → FW → Prop, Q = (fun r F' => r = some (.int (a_lacks T S y)) ∧ RDR F F') := ⟨_, rfl⟩
  rw [← hQ]
  have b3 := hT.mb
  have b4 := hT.nb
  have b5 := hT.gb
  have b6 := m_from_lt S
  have b7 := hS.db
  refine (show Pv (ab_T (L_X11_lacks Z_X11_isShore Z_X11_lackOf)) N 0 [some (.ref 69), some (.int y), none, none] [] F Q from ?_)
  refine Pv.aload rfl rfl ?_
  refine Pv.lit rfl ?_
  refine Pv.putI rfl rfl ?_
  refine Pv.aload rfl rfl ?_
  refine Pv.iload rfl rfl ?_
  refine Pv.callVI (as := [.ref 69, .int y]) (rest := []) (z := b2i (nd 2 y).isSome) rfl rfl rfl (q_isShore y) ?_
  refine Pv.if0 rfl (fun c1 => ?_) (fun c1 => ?_)
  · skip
    replace c1 : decide (b2i (nd 2 y).isSome = 0) = false := by simpa using c1
    replace c1 := of_decide_eq_false c1
    replace c1 := b2n.mp c1
    obtain ⟨s, hs, hsl, rfl⟩ := nd_t c1
    refine Pv.lit rfl ?_
    refine Pv.istore (lo' := [some (.ref 69), some (.int (Int32.ofNat s)), some (.int 0), none]) rfl rfl ?_
    refine Pv.lit rfl ?_
    refine Pv.istore (lo' := [some (.ref 69), some (.int (Int32.ofNat s)), some (.int 0), some (.int 0)]) rfl rfl ?_
    refine Pv.lp (ι := Nat × Int32) (lof := fun ⟨k, b⟩ => [some (.ref 69), some (.int (Int32.ofNat s)), some (.int b), some (.int (Int32.ofNat k))]) (Ff := fun ⟨k, b⟩ => (fp F 69 0 0)) (P := fun ⟨k, b⟩ => k ≤ t_g T ∧ b = m_bits (fun g => !decide (m_lack T S (2 * g + s) ≤ 0)) id k) ?_ (0, 0) (⟨Nat.zero_le _, rfl⟩)
    rintro N2 hN3 ⟨k, b⟩ hi4 ih5
    refine (show Pv _ _ 19 [some (.ref 69), some (.int (Int32.ofNat s)), some (.int b), some (.int (Int32.ofNat k))] [] (fp F 69 0 0) Q from ?_)
    obtain ⟨hk, hb⟩ := hi4
    refine Pv.iloadS rfl rfl ?_
    refine Pv.aload rfl rfl ?_
    refine Pv.getR (v := .ref 71) rfl rfl (GW.at (a := 69) (k := 6) (b := 71) hG (by decide)) ?_
    refine Pv.lit rfl ?_
    refine Pv.ald (z := Int32.ofNat (t_g T)) rfl ((fp_ne (Or.inl (by decide))).trans (hT.g)) ?_
    refine Pv.icmp rfl (fun c6 => ?_) (fun c6 => ?_)
    · skip
      replace c6 := (i_le (a := t_g T) (b := k) (by omega) (by omega)).mp (of_decide_eq_true c6)
      refine Pv.iload rfl rfl ?_
      exact Pv.ret rfl (by rw [hQ]; exact ⟨by unfold a_lacks; rw [hs]; dsimp only; rw [hb, show k = t_g T by omega], (RDR.rf).fp (Or.inl rfl)⟩)
    · skip
      replace c6 := mt (i_le (a := t_g T) (b := k) (by omega) (by omega)).mpr (of_decide_eq_false c6)
      refine Pv.iload rfl rfl ?_
      refine Pv.aload rfl rfl ?_
      refine Pv.iload rfl rfl ?_
      refine Pv.iload rfl rfl ?_
      refine Pv.callVI (as := [.ref 69, .int (Int32.ofNat k), .int (Int32.ofNat s)]) (rest := [.int b]) (z := m_lackr (t_a T (1 * 12 + (2 * k + s))) (h_s S (2 * k + s))) rfl rfl rfl (g_lackOf (g := k) (s := s) (w := t_a T (1 * 12 + (2 * k + s))) (x := h_s S (2 * k + s)) (hG.fx (P := fun _ => True) (((FX.rf (P := fun _ => True))).fp trivial)) (by omega) (by omega) ((fp_ne (Or.inl (by decide))).trans (hT.wa _ (by omega))) ((fp_ne (Or.inl (by decide))).trans (hS.s _ (by omega)))) ?_
      refine Pv.if0 rfl (fun c7 => ?_) (fun c7 => ?_)
      · skip
        replace c7 := of_decide_eq_true c7
        refine Pv.lit rfl ?_
        refine Pv.bin (z := b ||| 0) rfl (rfl) ?_
        refine Pv.istore (lo' := [some (.ref 69), some (.int (Int32.ofNat s)), some (.int (b ||| 0)), some (.int (Int32.ofNat k))]) rfl rfl ?_
        refine Pv.iinc (y := Int32.ofNat (k + 1)) (lo' := [some (.ref 69), some (.int (Int32.ofNat s)), some (.int (b ||| 0)), some (.int (Int32.ofNat (k + 1)))]) rfl rfl (i_add k 1) rfl ?_
        refine Pv.goto rfl ?_
        exact ih5 (k + 1, b ||| 0) (⟨by omega, by rw [m_bits_f (f := (fun g => !decide (m_lack T S (2 * g + s) ≤ 0))) (g := id) (k := k) (by have q := c7; rw [lackr_eq] at q; simp [show m_lack T S (2 * k + s) = ab_max 0 (t_a T (1 * 12 + (2 * k + s)) - h_s S (2 * k + s)) from rfl, q]), ← hb]; exact i_or0 _⟩)
      · skip
        replace c7 := of_decide_eq_false c7
        refine Pv.lit rfl ?_
        refine Pv.iload rfl rfl ?_
        refine Pv.bin (z := 1 <<< ((Int32.ofNat k) &&& 31)) rfl (rfl) ?_
        refine Pv.goto rfl ?_
        refine Pv.bin (z := b ||| (1 <<< ((Int32.ofNat k) &&& 31))) rfl (rfl) ?_
        refine Pv.istore (lo' := [some (.ref 69), some (.int (Int32.ofNat s)), some (.int (b ||| (1 <<< ((Int32.ofNat k) &&& 31)))), some (.int (Int32.ofNat k))]) rfl rfl ?_
        refine Pv.iinc (y := Int32.ofNat (k + 1)) (lo' := [some (.ref 69), some (.int (Int32.ofNat s)), some (.int (b ||| (1 <<< ((Int32.ofNat k) &&& 31)))), some (.int (Int32.ofNat (k + 1)))]) rfl rfl (i_add k 1) rfl ?_
        refine Pv.goto rfl ?_
        exact ih5 (k + 1, b ||| (1 <<< ((Int32.ofNat k) &&& 31))) (⟨by omega, by rw [m_bits_t (f := (fun g => !decide (m_lack T S (2 * g + s) ≤ 0))) (g := id) (k := k) (by have q := c7; rw [lackr_eq] at q; simp [show m_lack T S (2 * k + s) = ab_max 0 (t_a T (1 * 12 + (2 * k + s)) - h_s S (2 * k + s)) from rfl, q]), hb]; rfl⟩)
  · skip
    replace c1 : decide (b2i (nd 2 y).isSome = 0) = true := by simpa using c1
    replace c1 := of_decide_eq_true c1
    replace c1 := b2z.mp c1
    refine Pv.lit rfl ?_
    exact Pv.ret rfl (by rw [hQ]; exact ⟨by unfold a_lacks; rw [nd_f c1], (RDR.rf).fp (Or.inl rfl)⟩)
set_option maxRecDepth 100000 in
set_option maxHeartbeats 4000000 in
theorem q_falses {F : FW} {T : St} {S : Sh} (hT : XT F T) (hS : XS F (t_m T) S) (hG : GW F) (hTB : TBB T) (hSB : SB S) (hHB : HB S) (y : Int32) : Pm Z_X11_falses [.ref 69, .int y] F (fun r F' => r = some (.int (a_falses T S y)) ∧ RDR F F') := by
  refine Pm.of fun N => ?_
  obtain ⟨Q, hQ⟩ : ∃ Q : Option Value → FW → Prop, Q = (fun r F' => r = some (.int (a_falses T S y)) ∧ RDR F F') := ⟨_, rfl⟩
  rw [← hQ]
  have b3 := hT.mb
  have b4 := hT.nb
  have b5 := hT.gb
  have b6 := m_from_lt S
  have b7 := hS.db
  refine (show Pv (ab_T (L_X11_falses Z_X11_isShore Z_X11_isFalse)) N 0 [some (.ref 69), some (.int y), none, none] [] F Q from ?_)
  refine Pv.aload rfl rfl ?_
  refine Pv.lit rfl ?_
  refine Pv.putI rfl rfl ?_
  refine Pv.aload rfl rfl ?_
  refine Pv.iload rfl rfl ?_
  refine Pv.callVI (as := [.ref 69, .int y]) (rest := []) (z := b2i (nd 2 y).isSome) rfl rfl rfl (q_isShore y) ?_
  refine Pv.if0 rfl (fun c1 => ?_) (fun c1 => ?_)
  · skip
    replace c1 : decide (b2i (nd 2 y).isSome = 0) = false := by simpa using c1
    replace c1 := of_decide_eq_false c1
    replace c1 := b2n.mp c1
    obtain ⟨s, hs, hsl, rfl⟩ := nd_t c1
    refine Pv.lit rfl ?_
    refine Pv.istore (lo' := [some (.ref 69), some (.int (Int32.ofNat s)), some (.int 0), none]) rfl rfl ?_
    refine Pv.lit rfl ?_
    refine Pv.istore (lo' := [some (.ref 69), some (.int (Int32.ofNat s)), some (.int 0), some (.int 0)]) rfl rfl ?_
    refine Pv.lp (ι := Nat × Int32) (lof := fun ⟨k, b⟩ => [some (.ref 69), some (.int (Int32.ofNat s)), some (.int b), some (.int (Int32.ofNat k))]) (Ff := fun ⟨k, b⟩ => (fp F 69 0 0)) (P := fun ⟨k, b⟩ => k ≤ t_g T ∧ b = m_bits (fun g => m_false T S (2 * g + s)) id k) ?_ (0, 0) (⟨Nat.zero_le _, rfl⟩)
    rintro N2 hN3 ⟨k, b⟩ hi4 ih5
    refine (show Pv _ _ 19 [some (.ref 69), some (.int (Int32.ofNat s)), some (.int b), some (.int (Int32.ofNat k))] [] (fp F 69 0 0) Q from ?_)
    obtain ⟨hk, hb⟩ := hi4
    refine Pv.iloadS rfl rfl ?_
    refine Pv.aload rfl rfl ?_
    refine Pv.getR (v := .ref 71) rfl rfl (GW.at (a := 69) (k := 6) (b := 71) hG (by decide)) ?_
    refine Pv.lit rfl ?_
    refine Pv.ald (z := Int32.ofNat (t_g T)) rfl ((fp_ne (Or.inl (by decide))).trans (hT.g)) ?_
    refine Pv.icmp rfl (fun c6 => ?_) (fun c6 => ?_)
    · skip
      replace c6 := (i_le (a := t_g T) (b := k) (by omega) (by omega)).mp (of_decide_eq_true c6)
      refine Pv.iload rfl rfl ?_
      exact Pv.ret rfl (by rw [hQ]; exact ⟨by unfold a_falses; rw [hs]; dsimp only; rw [hb, show k = t_g T by omega], (RDR.rf).fp (Or.inl rfl)⟩)
    · skip
      replace c6 := mt (i_le (a := t_g T) (b := k) (by omega) (by omega)).mpr (of_decide_eq_false c6)
      refine Pv.iload rfl rfl ?_
      refine Pv.aload rfl rfl ?_
      refine Pv.iload rfl rfl ?_
      refine Pv.iload rfl rfl ?_
      refine Pv.callVI (as := [.ref 69, .int (Int32.ofNat k), .int (Int32.ofNat s)]) (rest := [.int b]) (z := b2i (m_falser (t_a T (1 * 12 + (2 * k + s))) (h_s S (2 * k + s)) (h_h S (2 * k + s)))) rfl rfl rfl (q_isFalse (g := k) (s := s) (w := t_a T (1 * 12 + (2 * k + s))) (x := h_s S (2 * k + s)) (y := h_h S (2 * k + s)) (hG.fx (P := fun _ => True) (((FX.rf (P := fun _ => True))).fp trivial)) (by omega) (by omega) ((fp_ne (Or.inl (by decide))).trans (hT.wa _ (by omega))) ((fp_ne (Or.inl (by decide))).trans (hS.s _ (by omega))) ((fp_ne (Or.inl (by decide))).trans (hS.h _ (by omega)))) ?_
      refine Pv.if0 rfl (fun c7 => ?_) (fun c7 => ?_)
      · skip
        replace c7 := of_decide_eq_true c7
        replace c7 := b2z.mp c7
        refine Pv.lit rfl ?_
        refine Pv.bin (z := b ||| 0) rfl (rfl) ?_
        refine Pv.istore (lo' := [some (.ref 69), some (.int (Int32.ofNat s)), some (.int (b ||| 0)), some (.int (Int32.ofNat k))]) rfl rfl ?_
        refine Pv.iinc (y := Int32.ofNat (k + 1)) (lo' := [some (.ref 69), some (.int (Int32.ofNat s)), some (.int (b ||| 0)), some (.int (Int32.ofNat (k + 1)))]) rfl rfl (i_add k 1) rfl ?_
        refine Pv.goto rfl ?_
        exact ih5 (k + 1, b ||| 0) (⟨by omega, by rw [m_bits_f (f := (fun g => m_false T S (2 * g + s))) (g := id) (k := k) (by rw [m_false_eq hTB hSB hHB b7 (by omega)]; exact c7), ← hb]; exact i_or0 _⟩)
      · skip
        replace c7 := of_decide_eq_false c7
        replace c7 := b2n.mp c7
        refine Pv.lit rfl ?_
        refine Pv.iload rfl rfl ?_
        refine Pv.bin (z := 1 <<< ((Int32.ofNat k) &&& 31)) rfl (rfl) ?_
        refine Pv.goto rfl ?_
        refine Pv.bin (z := b ||| (1 <<< ((Int32.ofNat k) &&& 31))) rfl (rfl) ?_
        refine Pv.istore (lo' := [some (.ref 69), some (.int (Int32.ofNat s)), some (.int (b ||| (1 <<< ((Int32.ofNat k) &&& 31)))), some (.int (Int32.ofNat k))]) rfl rfl ?_
        refine Pv.iinc (y := Int32.ofNat (k + 1)) (lo' := [some (.ref 69), some (.int (Int32.ofNat s)), some (.int (b ||| (1 <<< ((Int32.ofNat k) &&& 31)))), some (.int (Int32.ofNat (k + 1)))]) rfl rfl (i_add k 1) rfl ?_
        refine Pv.goto rfl ?_
        exact ih5 (k + 1, b ||| (1 <<< ((Int32.ofNat k) &&& 31))) (⟨by omega, by rw [m_bits_t (f := (fun g => m_false T S (2 * g + s))) (g := id) (k := k) (by rw [m_false_eq hTB hSB hHB b7 (by omega)]; exact c7), hb]; rfl⟩)
  · skip
    replace c1 : decide (b2i (nd 2 y).isSome = 0) = true := by simpa using c1
    replace c1 := of_decide_eq_true c1
    replace c1 := b2z.mp c1
    refine Pv.lit rfl ?_
    exact Pv.ret rfl (by rw [hQ]; exact ⟨by unfold a_falses; rw [nd_f c1], (RDR.rf).fp (Or.inl rfl)⟩)
set_option maxRecDepth 100000 in
set_option maxHeartbeats 4000000 in
theorem q_hoarded {F : FW} {T : St} {S : Sh} (hT : XT F T) (hS : XS F (t_m T) S) (hG : GW F) (y : Int32) : Pm Z_X11_hoarded [.ref 69, .int y] F (fun r F' => r = some (.int (a_hoarded T S y)) ∧ RDR F F') := by
  refine Pm.of fun N => ?_
  obtain ⟨Q, hQ⟩ : ∃ Q : Option Value → FW → Prop, Q = (fun r F' => r = some (.int (a_hoarded T S y)) ∧ RDR F F') := ⟨_, rfl⟩
  rw [← hQ]
  have b3 := hT.mb
  have b4 := hT.nb
  have b5 := hT.gb
  have b6 := m_from_lt S
  have b7 := hS.db
  refine (show Pv (ab_T (L_X11_hoarded Z_X11_isShore Z_X11_cell)) N 0 [some (.ref 69), some (.int y), none, none, none] [] F Q from ?_)
  refine Pv.aload rfl rfl ?_
  refine Pv.lit rfl ?_
  refine Pv.putI rfl rfl ?_
  refine Pv.aload rfl rfl ?_
  refine Pv.iload rfl rfl ?_
  refine Pv.callVI (as := [.ref 69, .int y]) (rest := []) (z := b2i (nd 2 y).isSome) rfl rfl rfl (q_isShore y) ?_
  refine Pv.if0 rfl (fun c1 => ?_) (fun c1 => ?_)
  · skip
    replace c1 : decide (b2i (nd 2 y).isSome = 0) = false := by simpa using c1
    replace c1 := of_decide_eq_false c1
    replace c1 := b2n.mp c1
    obtain ⟨s, hs, hsl, rfl⟩ := nd_t c1
    refine Pv.lit rfl ?_
    refine Pv.istore (lo' := [some (.ref 69), some (.int (Int32.ofNat s)), some (.int (-1)), none, none]) rfl rfl ?_
    refine Pv.lit rfl ?_
    refine Pv.istore (lo' := [some (.ref 69), some (.int (Int32.ofNat s)), some (.int (-1)), some (.int 0), none]) rfl rfl ?_
    refine Pv.lit rfl ?_
    refine Pv.istore (lo' := [some (.ref 69), some (.int (Int32.ofNat s)), some (.int (-1)), some (.int 0), some (.int 0)]) rfl rfl ?_
    refine Pv.lp (ι := Nat × Int32 × Int32) (lof := fun ⟨k, b, e⟩ => [some (.ref 69), some (.int (Int32.ofNat s)), some (.int e), some (.int b), some (.int (Int32.ofNat k))]) (Ff := fun ⟨k, b, e⟩ => (fp F 69 0 0)) (P := fun ⟨k, b, e⟩ => k ≤ t_g T ∧ (b, e) = m_top (fun g => h_h S (2 * g + s)) k) ?_ (0, 0, (-1)) (⟨Nat.zero_le _, rfl⟩)
    rintro N2 hN3 ⟨k, b, e⟩ hi4 ih5
    refine (show Pv _ _ 22 [some (.ref 69), some (.int (Int32.ofNat s)), some (.int e), some (.int b), some (.int (Int32.ofNat k))] [] (fp F 69 0 0) Q from ?_)
    obtain ⟨hk, hb⟩ := hi4
    refine Pv.iloadS rfl rfl ?_
    refine Pv.aload rfl rfl ?_
    refine Pv.getR (v := .ref 71) rfl rfl (GW.at (a := 69) (k := 6) (b := 71) hG (by decide)) ?_
    refine Pv.lit rfl ?_
    refine Pv.ald (z := Int32.ofNat (t_g T)) rfl ((fp_ne (Or.inl (by decide))).trans (hT.g)) ?_
    refine Pv.icmp rfl (fun c6 => ?_) (fun c6 => ?_)
    · skip
      replace c6 := (i_le (a := t_g T) (b := k) (by omega) (by omega)).mp (of_decide_eq_true c6)
      refine Pv.iload rfl rfl ?_
      exact Pv.ret rfl (by rw [hQ]; exact ⟨by unfold a_hoarded; rw [hs]; dsimp only; rw [show t_g T = k by omega, ← hb], (RDR.rf).fp (Or.inl rfl)⟩)
    · skip
      replace c6 := mt (i_le (a := t_g T) (b := k) (by omega) (by omega)).mpr (of_decide_eq_false c6)
      refine Pv.aload rfl rfl ?_
      refine Pv.getR (v := .ref 71) rfl rfl (GW.at (a := 69) (k := 6) (b := 71) hG (by decide)) ?_
      refine Pv.lit rfl ?_
      refine Pv.iload rfl rfl ?_
      refine Pv.iload rfl rfl ?_
      refine Pv.callI (as := [.int (Int32.ofNat k), .int (Int32.ofNat s)]) (rest := [.int 136, .ref 71]) (z := Int32.ofNat (2 * k + s)) rfl rfl rfl (g_cell (g := k) (s := s)) ?_
      refine Pv.bin (z := Int32.ofNat (136 + (2 * k + s))) rfl (i_add 136 (2 * k + s)) ?_
      refine Pv.ald (z := h_h S (2 * k + s)) rfl (by rw [i_toNat (by omega)]; exact (fp_ne (Or.inl (by decide))).trans (hS.h _ (by omega))) ?_
      refine Pv.iload rfl rfl ?_
      refine Pv.icmp rfl (fun c7 => ?_) (fun c7 => ?_)
      · skip
        replace c7 := of_decide_eq_true c7
        refine Pv.aload rfl rfl ?_
        refine Pv.getR (v := .ref 71) rfl rfl (GW.at (a := 69) (k := 6) (b := 71) hG (by decide)) ?_
        refine Pv.lit rfl ?_
        refine Pv.iload rfl rfl ?_
        refine Pv.iload rfl rfl ?_
        refine Pv.callI (as := [.int (Int32.ofNat k), .int (Int32.ofNat s)]) (rest := [.int 136, .ref 71]) (z := Int32.ofNat (2 * k + s)) rfl rfl rfl (g_cell (g := k) (s := s)) ?_
        refine Pv.bin (z := Int32.ofNat (136 + (2 * k + s))) rfl (i_add 136 (2 * k + s)) ?_
        refine Pv.ald (z := h_h S (2 * k + s)) rfl (by rw [i_toNat (by omega)]; exact (fp_ne (Or.inl (by decide))).trans (hS.h _ (by omega))) ?_
        refine Pv.istore (lo' := [some (.ref 69), some (.int (Int32.ofNat s)), some (.int e), some (.int (h_h S (2 * k + s))), some (.int (Int32.ofNat k))]) rfl rfl ?_
        refine Pv.iload rfl rfl ?_
        refine Pv.istore (lo' := [some (.ref 69), some (.int (Int32.ofNat s)), some (.int (Int32.ofNat k)), some (.int (h_h S (2 * k + s))), some (.int (Int32.ofNat k))]) rfl rfl ?_
        refine Pv.iinc (y := Int32.ofNat (k + 1)) (lo' := [some (.ref 69), some (.int (Int32.ofNat s)), some (.int (Int32.ofNat k)), some (.int (h_h S (2 * k + s))), some (.int (Int32.ofNat (k + 1)))]) rfl rfl (i_add k 1) rfl ?_
        refine Pv.goto rfl ?_
        exact ih5 (k + 1, h_h S (2 * k + s), Int32.ofNat k) (⟨by omega, by show _ = (if _ then _ else _ : Int32 × Int32); rw [if_neg (by rw [← hb]; exact (fun q => absurd (Int32.not_lt.mpr q) (fun n => n c7)))]⟩)
      · skip
        replace c7 := of_decide_eq_false c7
        refine Pv.goto rfl ?_
        refine Pv.iinc (y := Int32.ofNat (k + 1)) (lo' := [some (.ref 69), some (.int (Int32.ofNat s)), some (.int e), some (.int b), some (.int (Int32.ofNat (k + 1)))]) rfl rfl (i_add k 1) rfl ?_
        refine Pv.goto rfl ?_
        exact ih5 (k + 1, b, e) (⟨by omega, by show _ = (if _ then _ else _ : Int32 × Int32); rw [if_pos (by rw [← hb]; exact Int32.not_lt.mp c7)]; exact hb⟩)
  · skip
    replace c1 : decide (b2i (nd 2 y).isSome = 0) = true := by simpa using c1
    replace c1 := of_decide_eq_true c1
    replace c1 := b2z.mp c1
    refine Pv.lit rfl ?_
    exact Pv.ret rfl (by rw [hQ]; exact ⟨by unfold a_hoarded; rw [nd_f c1], (RDR.rf).fp (Or.inl rfl)⟩)
set_option maxRecDepth 100000 in
set_option maxHeartbeats 4000000 in
theorem q_bits {F : FW} (v : Nat) (hv : v < 256) : Pm Z_X11_bits [.int (Int32.ofNat v)] F (fun r F' => r = some (.int (rbits 257 (Int32.ofNat v))) ∧ F' = F) := by
  refine Pm.of fun N => ?_
  obtain ⟨Q, hQ⟩ : ∃ Q : Option Value → FW → Prop, Q = (fun r F' => r = some (.int (rbits 257 (Int32.ofNat v))) ∧ F' = F) := ⟨_, rfl⟩
  rw [← hQ]
  refine (show Pv (ab_T L_X11_bits) N 0 [some (.int (Int32.ofNat v)), none, none] [] F Q from ?_)
  refine Pv.lit rfl ?_
  refine Pv.istore (lo' := [some (.int (Int32.ofNat v)), some (.int 0), none]) rfl rfl ?_
  refine Pv.iload rfl rfl ?_
  refine Pv.istore (lo' := [some (.int (Int32.ofNat v)), some (.int 0), some (.int (Int32.ofNat v))]) rfl rfl ?_
  refine Pv.lp (ι := Nat × Int32 × Nat) (lof := fun ⟨k, b, n⟩ => [some (.int (Int32.ofNat v)), some (.int b), some (.int (Int32.ofNat k))]) (Ff := fun ⟨k, b, n⟩ => F) (P := fun ⟨k, b, n⟩ => k < n ∧ k < 256 ∧ rbits 257 (Int32.ofNat v) = rbits n (Int32.ofNat k) + b) ?_ (v, 0, 257) (⟨by omega, hv, (Int32.add_zero _).symm⟩)
  rintro N1 hN2 ⟨k, b, n⟩ hi3 ih4
  refine (show Pv _ _ 4 [some (.int (Int32.ofNat v)), some (.int b), some (.int (Int32.ofNat k))] [] F Q from ?_)
  obtain ⟨hn, hk, he⟩ := hi3
  refine Pv.iloadS rfl rfl ?_
  refine Pv.if0 rfl (fun c5 => ?_) (fun c5 => ?_)
  · skip
    replace c5 := (i_eq (a := k) (b := 0) (by omega) (by omega)).mp (of_decide_eq_true c5)
    refine Pv.iload rfl rfl ?_
    exact Pv.ret rfl (by rw [hQ]; exact ⟨by rw [he, rb_0 (by omega), Int32.zero_add], rfl⟩)
  · skip
    replace c5 := mt (i_eq (a := k) (b := 0) (by omega) (by omega)).mpr (of_decide_eq_false c5)
    refine Pv.iinc (y := b + 1) (lo' := [some (.int (Int32.ofNat v)), some (.int (b + 1)), some (.int (Int32.ofNat k))]) rfl rfl (rfl) rfl ?_
    refine Pv.iload rfl rfl ?_
    refine Pv.iload rfl rfl ?_
    refine Pv.lit rfl ?_
    refine Pv.bin (z := (Int32.ofNat k) - 1) rfl (rfl) ?_
    refine Pv.bin (z := Int32.ofNat (bk k)) rfl ((bk_ok k hk c5).1) ?_
    refine Pv.istore (lo' := [some (.int (Int32.ofNat v)), some (.int (b + 1)), some (.int (Int32.ofNat (bk k)))]) rfl rfl ?_
    refine Pv.goto rfl ?_
    exact ih4 (bk k, b + 1, (n - 1)) (rb_step hn hk he c5)
set_option maxRecDepth 100000 in
set_option maxHeartbeats 4000000 in
theorem q_dearest {F : FW} {T : St} {S : Sh} (hT : XT F T) (hS : XS F (t_m T) S) (hG : GW F) : Pm Z_X11_dearest [.ref 69] F (fun r F' => r = some (.int (a_dearest T S)) ∧ RDR F F') := by
  refine Pm.of fun N => ?_
  obtain ⟨Q, hQ⟩ : ∃ Q : Option Value → FW → Prop, Q = (fun r F' => r = some (.int (a_dearest T S)) ∧ RDR F F') := ⟨_, rfl⟩
  rw [← hQ]
  have b3 := hT.mb
  have b4 := hT.nb
  have b5 := hT.gb
  have b6 := m_from_lt S
  have b7 := hS.db
  refine (show Pv (ab_T (L_X11_dearest Z_X11_missedBy Z_X11_bits)) N 0 [some (.ref 69), none, none, none] [] F Q from ?_)
  refine Pv.aload rfl rfl ?_
  refine Pv.lit rfl ?_
  refine Pv.putI rfl rfl ?_
  refine Pv.lit rfl ?_
  refine Pv.istore (lo' := [some (.ref 69), some (.int (-1)), none, none]) rfl rfl ?_
  refine Pv.lit rfl ?_
  refine Pv.istore (lo' := [some (.ref 69), some (.int (-1)), some (.int 0), none]) rfl rfl ?_
  refine Pv.lit rfl ?_
  refine Pv.istore (lo' := [some (.ref 69), some (.int (-1)), some (.int 0), some (.int 0)]) rfl rfl ?_
  refine Pv.lp (ι := Nat × Int32 × Int32) (lof := fun ⟨k, b, e⟩ => [some (.ref 69), some (.int e), some (.int b), some (.int (Int32.ofNat k))]) (Ff := fun ⟨k, b, e⟩ => (fp F 69 0 0)) (P := fun ⟨k, b, e⟩ => k ≤ t_m T ∧ (b, e) = m_top (fun m => jbc (m_missers T S m)) k) ?_ (0, 0, (-1)) (⟨Nat.zero_le _, rfl⟩)
  rintro N1 hN2 ⟨k, b, e⟩ hi3 ih4
  refine (show Pv _ _ 11 [some (.ref 69), some (.int e), some (.int b), some (.int (Int32.ofNat k))] [] (fp F 69 0 0) Q from ?_)
  obtain ⟨hk, hb⟩ := hi3
  refine Pv.iloadS rfl rfl ?_
  refine Pv.aload rfl rfl ?_
  refine Pv.getR (v := .ref 71) rfl rfl (GW.at (a := 69) (k := 6) (b := 71) hG (by decide)) ?_
  refine Pv.lit rfl ?_
  refine Pv.ald (z := Int32.ofNat (t_m T)) rfl ((fp_ne (Or.inl (by decide))).trans (hT.m)) ?_
  refine Pv.icmp rfl (fun c5 => ?_) (fun c5 => ?_)
  · skip
    replace c5 := (i_le (a := t_m T) (b := k) (by omega) (by omega)).mp (of_decide_eq_true c5)
    refine Pv.iload rfl rfl ?_
    exact Pv.ret rfl (by rw [hQ]; exact ⟨by unfold a_dearest; rw [show t_m T = k by omega, ← hb], (RDR.rf).fp (Or.inl rfl)⟩)
  · skip
    replace c5 := mt (i_le (a := t_m T) (b := k) (by omega) (by omega)).mpr (of_decide_eq_false c5)
    refine Pv.aload rfl rfl ?_
    refine Pv.iload rfl rfl ?_
    refine Pv.callVI (as := [.ref 69, .int (Int32.ofNat k)]) (rest := []) (z := m_bits (fun m => m_does T S m k) id (t_m T)) rfl rfl rfl (g_missedBy (o := k) (hT.fx (P := fun q => q = 69) (((FX.rf (P := fun q => q = 69))).fp rfl) (by decide)) (hS.fx (P := fun q => q = 69) b3 (((FX.rf (P := fun q => q = 69))).fp rfl) (by decide)) (hG.fx (P := fun _ => True) (((FX.rf (P := fun _ => True))).fp trivial)) (by omega)) ?_
    obtain ⟨v6, hv6, ev6⟩ := missers_small (T := T) (S := S) hT.w k
    rw [show (m_bits (fun m => m_does T S m k) id (t_m T)) = Int32.ofNat v6 from (m_missers_eq hT.w).trans ev6]
    refine Pv.callI (as := [.int (Int32.ofNat v6)]) (rest := []) (z := rbits 257 (Int32.ofNat v6)) rfl rfl rfl (q_bits v6 (by omega)) ?_
    rw [show rbits 257 (Int32.ofNat v6) = jbc (m_missers T S k) from by rw [ev6]; exact (jbc_rb v6 hv6).symm]
    refine Pv.iload rfl rfl ?_
    refine Pv.icmp rfl (fun c7 => ?_) (fun c7 => ?_)
    · skip
      replace c7 := of_decide_eq_true c7
      refine Pv.aload rfl rfl ?_
      refine Pv.iload rfl rfl ?_
      refine Pv.callVI (as := [.ref 69, .int (Int32.ofNat k)]) (rest := []) (z := m_bits (fun m => m_does T S m k) id (t_m T)) rfl rfl rfl (g_missedBy (o := k) (hT.fx (P := fun q => q = 69) (((FX.rf (P := fun q => q = 69))).fp rfl) (by decide)) (hS.fx (P := fun q => q = 69) b3 (((FX.rf (P := fun q => q = 69))).fp rfl) (by decide)) (hG.fx (P := fun _ => True) (((FX.rf (P := fun _ => True))).fp trivial)) (by omega)) ?_
      obtain ⟨v8, hv8, ev8⟩ := missers_small (T := T) (S := S) hT.w k
      rw [show (m_bits (fun m => m_does T S m k) id (t_m T)) = Int32.ofNat v8 from (m_missers_eq hT.w).trans ev8]
      refine Pv.callI (as := [.int (Int32.ofNat v8)]) (rest := []) (z := rbits 257 (Int32.ofNat v8)) rfl rfl rfl (q_bits v8 (by omega)) ?_
      rw [show rbits 257 (Int32.ofNat v8) = jbc (m_missers T S k) from by rw [ev8]; exact (jbc_rb v8 hv8).symm]
      refine Pv.istore (lo' := [some (.ref 69), some (.int e), some (.int (jbc (m_missers T S k))), some (.int (Int32.ofNat k))]) rfl rfl ?_
      refine Pv.iload rfl rfl ?_
      refine Pv.istore (lo' := [some (.ref 69), some (.int (Int32.ofNat k)), some (.int (jbc (m_missers T S k))), some (.int (Int32.ofNat k))]) rfl rfl ?_
      refine Pv.iinc (y := Int32.ofNat (k + 1)) (lo' := [some (.ref 69), some (.int (Int32.ofNat k)), some (.int (jbc (m_missers T S k))), some (.int (Int32.ofNat (k + 1)))]) rfl rfl (i_add k 1) rfl ?_
      refine Pv.goto rfl ?_
      exact ih4 (k + 1, jbc (m_missers T S k), Int32.ofNat k) (⟨by omega, by show _ = (if _ then _ else _ : Int32 × Int32); rw [if_neg (by rw [← hb]; exact Int32.not_le.mpr c7)]⟩)
    · skip
      replace c7 := of_decide_eq_false c7
      refine Pv.goto rfl ?_
      refine Pv.iinc (y := Int32.ofNat (k + 1)) (lo' := [some (.ref 69), some (.int e), some (.int b), some (.int (Int32.ofNat (k + 1)))]) rfl rfl (i_add k 1) rfl ?_
      refine Pv.goto rfl ?_
      exact ih4 (k + 1, b, e) (⟨by omega, by show _ = (if _ then _ else _ : Int32 × Int32); rw [if_pos (by rw [← hb]; exact Int32.not_lt.mp c7)]; exact hb⟩)
set_option maxRecDepth 100000 in
set_option maxHeartbeats 4000000 in
theorem q_menOn {F : FW} {T : St} {S : Sh} (hT : XT F T) (hS : XS F (t_m T) S) (hG : GW F) (x : Int32) (hx : ¬ (-1 : Int32) = x) : Pm Z_X11_menOn [.ref 69, .int x] F (fun r F' => r = some (.int (m_men T S x)) ∧ F' = F) := by
  refine Pm.of fun N => ?_
  obtain ⟨Q, hQ⟩ : ∃ Q : Option Value → FW → Prop, Q = (fun r F' => r = some (.int (m_men T S x)) ∧ F' = F) := ⟨_, rfl⟩
  rw [← hQ]
  have b3 := hT.mb
  have b4 := hT.nb
  have b5 := hT.gb
  have b6 := m_from_lt S
  have b7 := hS.db
  refine (show Pv (ab_T (L_X11_menOn Z_X11_isDead)) N 0 [some (.ref 69), some (.int x), none, none] [] F Q from ?_)
  refine Pv.lit rfl ?_
  refine Pv.istore (lo' := [some (.ref 69), some (.int x), some (.int 0), none]) rfl rfl ?_
  refine Pv.lit rfl ?_
  refine Pv.istore (lo' := [some (.ref 69), some (.int x), some (.int 0), some (.int 0)]) rfl rfl ?_
  refine Pv.lp (ι := Nat × Int32) (lof := fun ⟨k, b⟩ => [some (.ref 69), some (.int x), some (.int b), some (.int (Int32.ofNat k))]) (Ff := fun ⟨k, b⟩ => F) (P := fun ⟨k, b⟩ => k ≤ t_m T ∧ b = m_bits (fun m => decide (h_a S m = x)) id k) ?_ (0, 0) (⟨Nat.zero_le _, rfl⟩)
  rintro N1 hN2 ⟨k, b⟩ hi3 ih4
  refine (show Pv _ _ 4 [some (.ref 69), some (.int x), some (.int b), some (.int (Int32.ofNat k))] [] F Q from ?_)
  obtain ⟨hk, hb⟩ := hi3
  refine Pv.iloadS rfl rfl ?_
  refine Pv.aload rfl rfl ?_
  refine Pv.getR (v := .ref 71) rfl rfl (GW.at (a := 69) (k := 6) (b := 71) hG (by decide)) ?_
  refine Pv.lit rfl ?_
  refine Pv.ald (z := Int32.ofNat (t_m T)) rfl (hT.m) ?_
  refine Pv.icmp rfl (fun c5 => ?_) (fun c5 => ?_)
  · skip
    replace c5 := (i_le (a := t_m T) (b := k) (by omega) (by omega)).mp (of_decide_eq_true c5)
    refine Pv.iload rfl rfl ?_
    exact Pv.ret rfl (by rw [hQ]; exact ⟨by rw [hb, show k = t_m T by omega]; rfl, rfl⟩)
  · skip
    replace c5 := mt (i_le (a := t_m T) (b := k) (by omega) (by omega)).mpr (of_decide_eq_false c5)
    refine Pv.iload rfl rfl ?_
    refine Pv.aload rfl rfl ?_
    refine Pv.iload rfl rfl ?_
    refine Pv.callVI (as := [.ref 69, .int (Int32.ofNat k)]) (rest := [.int b]) (z := b2i (!m_alive S k)) rfl rfl rfl (g_isDead (o := 0) (m := k) hS.xd hG (by omega)) ?_
    refine Pv.if0 rfl (fun c6 => ?_) (fun c6 => ?_)
    · skip
      replace c6 : decide (b2i (!m_alive S k) = 0) = false := by simpa using c6
      replace c6 := of_decide_eq_false c6
      replace c6 := b2n.mp c6
      refine Pv.lit rfl ?_
      refine Pv.bin (z := b ||| 0) rfl (rfl) ?_
      refine Pv.istore (lo' := [some (.ref 69), some (.int x), some (.int (b ||| 0)), some (.int (Int32.ofNat k))]) rfl rfl ?_
      refine Pv.iinc (y := Int32.ofNat (k + 1)) (lo' := [some (.ref 69), some (.int x), some (.int (b ||| 0)), some (.int (Int32.ofNat (k + 1)))]) rfl rfl (i_add k 1) rfl ?_
      refine Pv.goto rfl ?_
      exact ih4 (k + 1, b ||| 0) (⟨by omega, by rw [m_bits_f (f := (fun m => decide (h_a S m = x))) (g := id) (k := k) (by have q := c6; simp at q; have q2 := m_alive_n q; simp [q2, hx]), ← hb]; exact i_or0 _⟩)
    · skip
      replace c6 : decide (b2i (!m_alive S k) = 0) = true := by simpa using c6
      replace c6 := of_decide_eq_true c6
      replace c6 := b2z.mp c6
      have a1 : m_alive S k = true := by simpa using c6
      refine Pv.aload rfl rfl ?_
      refine Pv.getR (v := .ref 71) rfl rfl (GW.at (a := 69) (k := 6) (b := 71) hG (by decide)) ?_
      refine Pv.lit rfl ?_
      refine Pv.iload rfl rfl ?_
      refine Pv.bin (z := Int32.ofNat (172 + k)) rfl (i_add 172 k) ?_
      refine Pv.ald (z := h_a S k) rfl (by rw [i_toNat (by omega)]; exact hS.a (by omega) a1) ?_
      refine Pv.iload rfl rfl ?_
      refine Pv.icmp rfl (fun c7 => ?_) (fun c7 => ?_)
      · skip
        replace c7 : decide (h_a S k = x) = false := by simpa using c7
        replace c7 := of_decide_eq_false c7
        refine Pv.lit rfl ?_
        refine Pv.bin (z := b ||| 0) rfl (rfl) ?_
        refine Pv.istore (lo' := [some (.ref 69), some (.int x), some (.int (b ||| 0)), some (.int (Int32.ofNat k))]) rfl rfl ?_
        refine Pv.iinc (y := Int32.ofNat (k + 1)) (lo' := [some (.ref 69), some (.int x), some (.int (b ||| 0)), some (.int (Int32.ofNat (k + 1)))]) rfl rfl (i_add k 1) rfl ?_
        refine Pv.goto rfl ?_
        exact ih4 (k + 1, b ||| 0) (⟨by omega, by rw [m_bits_f (f := (fun m => decide (h_a S m = x))) (g := id) (k := k) (by simp [c7]), ← hb]; exact i_or0 _⟩)
      · skip
        replace c7 : decide (h_a S k = x) = true := by simpa using c7
        replace c7 := of_decide_eq_true c7
        refine Pv.lit rfl ?_
        refine Pv.iload rfl rfl ?_
        refine Pv.bin (z := 1 <<< ((Int32.ofNat k) &&& 31)) rfl (rfl) ?_
        refine Pv.goto rfl ?_
        refine Pv.bin (z := b ||| (1 <<< ((Int32.ofNat k) &&& 31))) rfl (rfl) ?_
        refine Pv.istore (lo' := [some (.ref 69), some (.int x), some (.int (b ||| (1 <<< ((Int32.ofNat k) &&& 31)))), some (.int (Int32.ofNat k))]) rfl rfl ?_
        refine Pv.iinc (y := Int32.ofNat (k + 1)) (lo' := [some (.ref 69), some (.int x), some (.int (b ||| (1 <<< ((Int32.ofNat k) &&& 31)))), some (.int (Int32.ofNat (k + 1)))]) rfl rfl (i_add k 1) rfl ?_
        refine Pv.goto rfl ?_
        exact ih4 (k + 1, b ||| (1 <<< ((Int32.ofNat k) &&& 31))) (⟨by omega, by rw [m_bits_t (f := (fun m => decide (h_a S m = x))) (g := id) (k := k) (by simp [c7]), hb]; rfl⟩)
set_option maxRecDepth 100000 in
set_option maxHeartbeats 4000000 in
theorem q_now {F : FW} {T : St} {S : Sh} (hT : XT F T) (hS : XS F (t_m T) S) (hG : GW F) (w : Int32) : Pm Z_X11_now [.ref 69, .int w] F (fun r F' => r = some (.int (a_now T S w)) ∧ RDR F F') := by
  refine Pm.of fun N => ?_
  obtain ⟨Q, hQ⟩ : ∃ Q : Option Value → FW → Prop, Q = (fun r F' => r = some (.int (a_now T S w)) ∧ RDR F F') := ⟨_, rfl⟩
  rw [← hQ]
  have b3 := hT.mb
  have b4 := hT.nb
  have b5 := hT.gb
  have b6 := m_from_lt S
  have b7 := hS.db
  refine (show Pv (ab_T (L_X11_now Z_X11_menOn)) N 0 [some (.ref 69), some (.int w)] [] F Q from ?_)
  refine Pv.aload rfl rfl ?_
  refine Pv.lit rfl ?_
  refine Pv.putI rfl rfl ?_
  refine Pv.iload rfl rfl ?_
  rcases nd_7 w with rfl | rfl | rfl | rfl | rfl | rfl | rfl | hw
  · refine Pv.tab (t := 48) rfl rfl ?_
    refine Pv.aload rfl rfl ?_
    refine Pv.getR (v := .ref 71) rfl rfl (GW.at (a := 69) (k := 6) (b := 71) hG (by decide)) ?_
    refine Pv.lit rfl ?_
    refine Pv.ald (z := Int32.ofNat (h_d S)) rfl ((fp_ne (Or.inl (by decide))).trans (hS.d)) ?_
    exact Pv.ret rfl (by rw [hQ]; exact ⟨rfl, (RDR.rf).fp (Or.inl rfl)⟩)
  · refine Pv.tab (t := 56) rfl rfl ?_
    refine Pv.aload rfl rfl ?_
    refine Pv.getR (v := .ref 71) rfl rfl (GW.at (a := 69) (k := 6) (b := 71) hG (by decide)) ?_
    refine Pv.lit rfl ?_
    refine Pv.ald (z := Int32.ofNat (h_d S)) rfl ((fp_ne (Or.inl (by decide))).trans (hS.d)) ?_
    refine Pv.lit rfl ?_
    refine Pv.irem (z := Int32.ofNat ((h_d S) % 2)) rfl (i_rem2 (by omega)) ?_
    exact Pv.ret rfl (by rw [hQ]; exact ⟨rfl, (RDR.rf).fp (Or.inl rfl)⟩)
  · refine Pv.tab (t := 66) rfl rfl ?_
    refine Pv.aload rfl rfl ?_
    refine Pv.lit rfl ?_
    refine Pv.callVI (as := [.ref 69, .int 0]) (rest := []) (z := m_men T S 0) rfl rfl rfl (q_menOn (hT.fx (P := fun q => q = 69) (((FX.rf (P := fun q => q = 69))).fp rfl) (by decide)) (hS.fx (P := fun q => q = 69) b3 (((FX.rf (P := fun q => q = 69))).fp rfl) (by decide)) (hG.fx (P := fun _ => True) (((FX.rf (P := fun _ => True))).fp trivial)) 0 (by decide)) ?_
    exact Pv.ret rfl (by rw [hQ]; exact ⟨rfl, (RDR.rf).fp (Or.inl rfl)⟩)
  · refine Pv.tab (t := 72) rfl rfl ?_
    refine Pv.aload rfl rfl ?_
    refine Pv.lit rfl ?_
    refine Pv.callVI (as := [.ref 69, .int 1]) (rest := []) (z := m_men T S 1) rfl rfl rfl (q_menOn (hT.fx (P := fun q => q = 69) (((FX.rf (P := fun q => q = 69))).fp rfl) (by decide)) (hS.fx (P := fun q => q = 69) b3 (((FX.rf (P := fun q => q = 69))).fp rfl) (by decide)) (hG.fx (P := fun _ => True) (((FX.rf (P := fun _ => True))).fp trivial)) 1 (by decide)) ?_
    exact Pv.ret rfl (by rw [hQ]; exact ⟨rfl, (RDR.rf).fp (Or.inl rfl)⟩)
  · refine Pv.tab (t := 78) rfl rfl ?_
    refine Pv.aload rfl rfl ?_
    refine Pv.getR (v := .ref 71) rfl rfl (GW.at (a := 69) (k := 6) (b := 71) hG (by decide)) ?_
    refine Pv.lit rfl ?_
    refine Pv.ald (z := h_i S) rfl ((fp_ne (Or.inl (by decide))).trans (hS.i)) ?_
    exact Pv.ret rfl (by rw [hQ]; exact ⟨rfl, (RDR.rf).fp (Or.inl rfl)⟩)
  · refine Pv.tab (t := 86) rfl rfl ?_
    refine Pv.aload rfl rfl ?_
    refine Pv.getR (v := .ref 71) rfl rfl (GW.at (a := 69) (k := 6) (b := 71) hG (by decide)) ?_
    refine Pv.lit rfl ?_
    refine Pv.ald (z := h_r S) rfl ((fp_ne (Or.inl (by decide))).trans (hS.r)) ?_
    exact Pv.ret rfl (by rw [hQ]; exact ⟨rfl, (RDR.rf).fp (Or.inl rfl)⟩)
  · refine Pv.tab (t := 94) rfl rfl ?_
    refine Pv.aload rfl rfl ?_
    refine Pv.getR (v := .ref 71) rfl rfl (GW.at (a := 69) (k := 6) (b := 71) hG (by decide)) ?_
    refine Pv.lit rfl ?_
    refine Pv.ald (z := m_sum (h_u S) 12) rfl ((fp_ne (Or.inl (by decide))).trans (hS.st)) ?_
    exact Pv.ret rfl (by rw [hQ]; exact ⟨rfl, (RDR.rf).fp (Or.inl rfl)⟩)
  · refine Pv.tab (t := 102) rfl (nd_tab hw (by decide)) ?_
    refine Pv.lit rfl ?_
    exact Pv.ret rfl (by rw [hQ]; exact ⟨by unfold a_now; rw [hw], (RDR.rf).fp (Or.inl rfl)⟩)
set_option maxRecDepth 100000 in
set_option maxHeartbeats 4000000 in
theorem q_apart {F : FW} {T : St} {S : Sh} (hT : XT F T) (hS : XS F (t_m T) S) (hG : GW F) (x y : Int32) : Pm Z_X11_apart [.ref 69, .int x, .int y] F (fun r F' => r = some (.int (a_apart T S x y)) ∧ RDR F F') := by
  refine Pm.of fun N => ?_
  obtain ⟨Q, hQ⟩ : ∃ Q : Option Value → FW → Prop, Q = (fun r F' => r = some (.int (a_apart T S x y)) ∧ RDR F F') := ⟨_, rfl⟩
  rw [← hQ]
  have b3 := hT.mb
  have b4 := hT.nb
  have b5 := hT.gb
  have b6 := m_from_lt S
  have b7 := hS.db
  refine (show Pv (ab_T (L_X11_apart Z_X11_isMan Z_X11_isDead)) N 0 [some (.ref 69), some (.int x), some (.int y)] [] F Q from ?_)
  refine Pv.aload rfl rfl ?_
  refine Pv.lit rfl ?_
  refine Pv.putI rfl rfl ?_
  refine Pv.aload rfl rfl ?_
  refine Pv.iload rfl rfl ?_
  refine Pv.callVI (as := [.ref 69, .int x]) (rest := []) (z := b2i (nd (t_m T) x).isSome) rfl rfl rfl (q_isMan (hT.fx (P := fun q => q = 69) (((FX.rf (P := fun q => q = 69))).fp rfl) (by decide)) (hG.fx (P := fun _ => True) (((FX.rf (P := fun _ => True))).fp trivial)) x) ?_
  refine Pv.if0 rfl (fun c1 => ?_) (fun c1 => ?_)
  · skip
    replace c1 := of_decide_eq_true c1
    replace c1 := b2z.mp c1
    refine Pv.lit rfl ?_
    exact Pv.ret rfl (by rw [hQ]; exact ⟨by unfold a_apart liv2; rw [nd_f c1], (RDR.rf).fp (Or.inl rfl)⟩)
  · skip
    replace c1 := of_decide_eq_false c1
    replace c1 := b2n.mp c1
    obtain ⟨m, hm, hml, rfl⟩ := nd_t c1
    refine Pv.aload rfl rfl ?_
    refine Pv.iload rfl rfl ?_
    refine Pv.callVI (as := [.ref 69, .int y]) (rest := []) (z := b2i (nd (t_m T) y).isSome) rfl rfl rfl (q_isMan (hT.fx (P := fun q => q = 69) (((FX.rf (P := fun q => q = 69))).fp rfl) (by decide)) (hG.fx (P := fun _ => True) (((FX.rf (P := fun _ => True))).fp trivial)) y) ?_
    refine Pv.if0 rfl (fun c2 => ?_) (fun c2 => ?_)
    · skip
      replace c2 := of_decide_eq_true c2
      replace c2 := b2z.mp c2
      refine Pv.lit rfl ?_
      exact Pv.ret rfl (by rw [hQ]; exact ⟨by unfold a_apart liv2; rw [hm]; dsimp only; rw [nd_f c2], (RDR.rf).fp (Or.inl rfl)⟩)
    · skip
      replace c2 := of_decide_eq_false c2
      replace c2 := b2n.mp c2
      obtain ⟨o, ho, hol, rfl⟩ := nd_t c2
      refine Pv.iload rfl rfl ?_
      refine Pv.iload rfl rfl ?_
      refine Pv.icmp rfl (fun c3 => ?_) (fun c3 => ?_)
      · skip
        replace c3 := (i_eq (a := m) (b := o) (by omega) (by omega)).mp (of_decide_eq_true c3)
        refine Pv.lit rfl ?_
        exact Pv.ret rfl (by rw [hQ]; exact ⟨by unfold a_apart liv2; rw [hm]; dsimp only; rw [ho]; dsimp only; rw [if_neg (fun q => q.1 c3)], (RDR.rf).fp (Or.inl rfl)⟩)
      · skip
        replace c3 := mt (i_eq (a := m) (b := o) (by omega) (by omega)).mpr (of_decide_eq_false c3)
        refine Pv.aload rfl rfl ?_
        refine Pv.iload rfl rfl ?_
        refine Pv.callVI (as := [.ref 69, .int (Int32.ofNat m)]) (rest := []) (z := b2i (!m_alive S m)) rfl rfl rfl (g_isDead (o := 0) (m := m) (hS.xd.fx (P := fun q => q = 69) (((FX.rf (P := fun q => q = 69))).fp rfl) (by decide)) (hG.fx (P := fun _ => True) (((FX.rf (P := fun _ => True))).fp trivial)) (by omega)) ?_
        refine Pv.if0 rfl (fun c4 => ?_) (fun c4 => ?_)
        · skip
          replace c4 : decide (b2i (!m_alive S m) = 0) = false := by simpa using c4
          replace c4 := of_decide_eq_false c4
          replace c4 := b2n.mp c4
          refine Pv.lit rfl ?_
          exact Pv.ret rfl (by rw [hQ]; exact ⟨by unfold a_apart liv2; rw [hm]; dsimp only; rw [ho]; dsimp only; rw [if_neg (fun q => by have z := c4; rw [q.2.1] at z; cases z)], (RDR.rf).fp (Or.inl rfl)⟩)
        · skip
          replace c4 : decide (b2i (!m_alive S m) = 0) = true := by simpa using c4
          replace c4 := of_decide_eq_true c4
          replace c4 := b2z.mp c4
          refine Pv.aload rfl rfl ?_
          refine Pv.iload rfl rfl ?_
          refine Pv.callVI (as := [.ref 69, .int (Int32.ofNat o)]) (rest := []) (z := b2i (!m_alive S o)) rfl rfl rfl (g_isDead (o := 0) (m := o) (hS.xd.fx (P := fun q => q = 69) (((FX.rf (P := fun q => q = 69))).fp rfl) (by decide)) (hG.fx (P := fun _ => True) (((FX.rf (P := fun _ => True))).fp trivial)) (by omega)) ?_
          refine Pv.if0 rfl (fun c5 => ?_) (fun c5 => ?_)
          · skip
            replace c5 : decide (b2i (!m_alive S o) = 0) = false := by simpa using c5
            replace c5 := of_decide_eq_false c5
            replace c5 := b2n.mp c5
            refine Pv.lit rfl ?_
            exact Pv.ret rfl (by rw [hQ]; exact ⟨by unfold a_apart liv2; rw [hm]; dsimp only; rw [ho]; dsimp only; rw [if_neg (fun q => by have z := c5; rw [q.2.2] at z; cases z)], (RDR.rf).fp (Or.inl rfl)⟩)
          · skip
            replace c5 : decide (b2i (!m_alive S o) = 0) = true := by simpa using c5
            replace c5 := of_decide_eq_true c5
            replace c5 := b2z.mp c5
            have a1 : m_alive S m = true := by simpa using c4
            have a2 : m_alive S o = true := by simpa using c5
            refine Pv.aload rfl rfl ?_
            refine Pv.getR (v := .ref 71) rfl rfl (GW.at (a := 69) (k := 6) (b := 71) hG (by decide)) ?_
            refine Pv.lit rfl ?_
            refine Pv.lit rfl ?_
            refine Pv.iload rfl rfl ?_
            refine Pv.bin (z := Int32.ofNat (8 * m)) rfl (i_mul 8 m) ?_
            refine Pv.bin (z := Int32.ofNat (189 + (8 * m))) rfl (i_add 189 (8 * m)) ?_
            refine Pv.iload rfl rfl ?_
            refine Pv.bin (z := Int32.ofNat ((189 + (8 * m)) + o)) rfl (i_add (189 + (8 * m)) o) ?_
            refine Pv.ald (z := m_apart S m o) rfl (by rw [i_toNat (by omega)]; exact (fp_ne (Or.inl (by decide))).trans (hS.p (by omega) (by omega) c3 a1 a2)) ?_
            refine Pv.goto rfl ?_
            exact Pv.ret rfl (by rw [hQ]; exact ⟨by unfold a_apart liv2; rw [hm]; dsimp only; rw [ho]; dsimp only; rw [if_pos ⟨c3, a1, a2⟩], (RDR.rf).fp (Or.inl rfl)⟩)
set_option maxRecDepth 100000 in
set_option maxHeartbeats 4000000 in
theorem q_rats {F : FW} {T : St} {S : Sh} (hT : XT F T) (hS : XS F (t_m T) S) (hG : GW F) (hAB : AB T S) : Pm Z_X11_rats [.ref 69] F (fun r F' => r = some (.int (a_rats T S)) ∧ RDR F F') := by
  refine Pm.of fun N => ?_
  obtain ⟨Q, hQ⟩ : ∃ Q : Option Value → FW → Prop, Q = (fun r F' => r = some (.int (a_rats T S)) ∧ RDR F F') := ⟨_, rfl⟩
  rw [← hQ]
  have b3 := hT.mb
  have b4 := hT.nb
  have b5 := hT.gb
  have b6 := m_from_lt S
  have b7 := hS.db
  refine (show Pv (ab_T (L_X11_rats Z_X11_menOn Z_X11_isDead)) N 0 [some (.ref 69), none, none] [] F Q from ?_)
  refine Pv.aload rfl rfl ?_
  refine Pv.lit rfl ?_
  refine Pv.putI rfl rfl ?_
  refine Pv.aload rfl rfl ?_
  refine Pv.lit rfl ?_
  refine Pv.callVI (as := [.ref 69, .int 0]) (rest := []) (z := m_men T S 0) rfl rfl rfl (q_menOn (hT.fx (P := fun q => q = 69) (((FX.rf (P := fun q => q = 69))).fp rfl) (by decide)) (hS.fx (P := fun q => q = 69) b3 (((FX.rf (P := fun q => q = 69))).fp rfl) (by decide)) (hG.fx (P := fun _ => True) (((FX.rf (P := fun _ => True))).fp trivial)) 0 (by decide)) ?_
  refine Pv.aload rfl rfl ?_
  refine Pv.lit rfl ?_
  refine Pv.callVI (as := [.ref 69, .int 1]) (rest := [.int (m_men T S 0)]) (z := m_men T S 1) rfl rfl rfl (q_menOn (hT.fx (P := fun q => q = 69) (((FX.rf (P := fun q => q = 69))).fp rfl) (by decide)) (hS.fx (P := fun q => q = 69) b3 (((FX.rf (P := fun q => q = 69))).fp rfl) (by decide)) (hG.fx (P := fun _ => True) (((FX.rf (P := fun _ => True))).fp trivial)) 1 (by decide)) ?_
  refine Pv.bin (z := (m_men T S 0) ||| (m_men T S 1)) rfl (rfl) ?_
  refine Pv.istore (lo' := [some (.ref 69), some (.int ((m_men T S 0) ||| (m_men T S 1))), none]) rfl rfl ?_
  refine Pv.lit rfl ?_
  refine Pv.istore (lo' := [some (.ref 69), some (.int ((m_men T S 0) ||| (m_men T S 1))), some (.int 0)]) rfl rfl ?_
  refine Pv.lp (ι := Nat × Int32) (lof := fun ⟨k, b⟩ => [some (.ref 69), some (.int b), some (.int (Int32.ofNat k))]) (Ff := fun ⟨k, b⟩ => (fp F 69 0 0)) (P := fun ⟨k, b⟩ => k ≤ t_n T ∧ ∀ j, j < 32 → btb b j = (btb (m_men T S 0 ||| m_men T S 1) j && !m_could T S j k)) ?_ (0, (m_men T S 0) ||| (m_men T S 1)) (⟨Nat.zero_le _, fun j hj => by show _ = (_ && !false); rw [Bool.not_false, Bool.and_true]⟩)
  rintro N1 hN2 ⟨k, b⟩ hi3 ih4
  refine (show Pv _ _ 19 [some (.ref 69), some (.int b), some (.int (Int32.ofNat k))] [] (fp F 69 0 0) Q from ?_)
  obtain ⟨hk, hb⟩ := hi3
  refine Pv.iloadS rfl rfl ?_
  refine Pv.aload rfl rfl ?_
  refine Pv.getR (v := .ref 71) rfl rfl (GW.at (a := 69) (k := 6) (b := 71) hG (by decide)) ?_
  refine Pv.lit rfl ?_
  refine Pv.ald (z := Int32.ofNat (t_n T)) rfl ((fp_ne (Or.inl (by decide))).trans (hT.n)) ?_
  refine Pv.icmp rfl (fun c5 => ?_) (fun c5 => ?_)
  · skip
    replace c5 := (i_le (a := t_n T) (b := k) (by omega) (by omega)).mp (of_decide_eq_true c5)
    refine Pv.iload rfl rfl ?_
    exact Pv.ret rfl (by rw [hQ]; exact ⟨by rw [show b = a_rats T S from rats_eq hAB b3 (fun j hj => by rw [hb j hj, show k = t_n T by omega])], (RDR.rf).fp (Or.inl rfl)⟩)
  · skip
    replace c5 := mt (i_le (a := t_n T) (b := k) (by omega) (by omega)).mpr (of_decide_eq_false c5)
    have b1 := hT.rb (show k < t_n T by omega)
    have b2 := hT.db (show k < t_n T by omega)
    refine Pv.aload rfl rfl ?_
    refine Pv.aload rfl rfl ?_
    refine Pv.getR (v := .ref 71) rfl rfl (GW.at (a := 69) (k := 6) (b := 71) hG (by decide)) ?_
    refine Pv.lit rfl ?_
    refine Pv.iload rfl rfl ?_
    refine Pv.bin (z := Int32.ofNat (60 + k)) rfl (i_add 60 k) ?_
    refine Pv.ald (z := Int32.ofNat (t_r T k)) rfl (by rw [i_toNat (by omega)]; exact (fp_ne (Or.inl (by decide))).trans (hT.r _ (by omega))) ?_
    refine Pv.callVI (as := [.ref 69, .int (Int32.ofNat (t_r T k))]) (rest := []) (z := b2i (!m_alive S (t_r T k))) rfl rfl rfl (g_isDead (o := 0) (m := t_r T k) (hS.xd.fx (P := fun q => q = 69) (((FX.rf (P := fun q => q = 69))).fp rfl) (by decide)) (hG.fx (P := fun _ => True) (((FX.rf (P := fun _ => True))).fp trivial)) (by omega)) ?_
    refine Pv.if0 rfl (fun c6 => ?_) (fun c6 => ?_)
    · skip
      replace c6 : decide (b2i (!m_alive S (t_r T k)) = 0) = false := by simpa using c6
      replace c6 := of_decide_eq_false c6
      replace c6 := b2n.mp c6
      refine Pv.iinc (y := Int32.ofNat (k + 1)) (lo' := [some (.ref 69), some (.int b), some (.int (Int32.ofNat (k + 1)))]) rfl rfl (i_add k 1) rfl ?_
      refine Pv.goto rfl ?_
      exact ih4 (k + 1, b) (⟨by omega, fun j hj => by rw [hb j hj]; show _ = (_ && !(m_could T S j k || (decide (t_d T k = j) && m_alive S (t_r T k)))); have q := c6; simp at q; simp [q]⟩)
    · skip
      replace c6 : decide (b2i (!m_alive S (t_r T k)) = 0) = true := by simpa using c6
      replace c6 := of_decide_eq_true c6
      replace c6 := b2z.mp c6
      refine Pv.iload rfl rfl ?_
      refine Pv.lit rfl ?_
      refine Pv.aload rfl rfl ?_
      refine Pv.getR (v := .ref 71) rfl rfl (GW.at (a := 69) (k := 6) (b := 71) hG (by decide)) ?_
      refine Pv.lit rfl ?_
      refine Pv.iload rfl rfl ?_
      refine Pv.bin (z := Int32.ofNat (80 + k)) rfl (i_add 80 k) ?_
      refine Pv.ald (z := Int32.ofNat (t_d T k)) rfl (by rw [i_toNat (by omega)]; exact (fp_ne (Or.inl (by decide))).trans (hT.d _ (by omega))) ?_
      refine Pv.bin (z := 1 <<< ((Int32.ofNat (t_d T k)) &&& 31)) rfl (rfl) ?_
      refine Pv.lit rfl ?_
      refine Pv.bin (z := (1 <<< ((Int32.ofNat (t_d T k)) &&& 31)) ^^^ (-1)) rfl (rfl) ?_
      refine Pv.bin (z := b &&& ((1 <<< ((Int32.ofNat (t_d T k)) &&& 31)) ^^^ (-1))) rfl (rfl) ?_
      refine Pv.istore (lo' := [some (.ref 69), some (.int (b &&& ((1 <<< ((Int32.ofNat (t_d T k)) &&& 31)) ^^^ (-1)))), some (.int (Int32.ofNat k))]) rfl rfl ?_
      refine Pv.iinc (y := Int32.ofNat (k + 1)) (lo' := [some (.ref 69), some (.int (b &&& ((1 <<< ((Int32.ofNat (t_d T k)) &&& 31)) ^^^ (-1)))), some (.int (Int32.ofNat (k + 1)))]) rfl rfl (i_add k 1) rfl ?_
      refine Pv.goto rfl ?_
      exact ih4 (k + 1, b &&& ((1 <<< ((Int32.ofNat (t_d T k)) &&& 31)) ^^^ (-1))) (⟨by omega, fun j hj => by rw [rat_clr (by omega) hj, hb j hj]; show _ = (_ && !(m_could T S j k || (decide (t_d T k = j) && m_alive S (t_r T k)))); have q := c6; simp at q; rw [q, Bool.and_true, Bool.not_or, Bool.and_assoc]⟩)
set_option maxRecDepth 100000 in
set_option maxHeartbeats 4000000 in
theorem q_going {F : FW} {T : St} {S : Sh} (hT : XT F T) (hS : XS F (t_m T) S) (hG : GW F) : Pm Z_X11_going [.ref 69] F (fun r F' => r = some (.int (a_going T S)) ∧ RDR F F') := by
  refine Pm.of fun N => ?_
  obtain ⟨Q, hQ⟩ : ∃ Q : Option Value → FW → Prop, Q = (fun r F' => r = some (.int (a_going T S)) ∧ RDR F F') := ⟨_, rfl⟩
  rw [← hQ]
  have b3 := hT.mb
  have b4 := hT.nb
  have b5 := hT.gb
  have b6 := m_from_lt S
  have b7 := hS.db
  refine (show Pv (ab_T (L_X11_going Z_X11_goingSet)) N 0 [some (.ref 69)] [] F Q from ?_)
  refine Pv.aload rfl rfl ?_
  refine Pv.lit rfl ?_
  refine Pv.putI rfl rfl ?_
  refine Pv.aload rfl rfl ?_
  refine Pv.getR (v := .ref 71) rfl rfl (GW.at (a := 69) (k := 6) (b := 71) hG (by decide)) ?_
  refine Pv.lit rfl ?_
  refine Pv.ald (z := Int32.ofNat (h_d S)) rfl ((fp_ne (Or.inl (by decide))).trans (hS.d)) ?_
  refine Pv.lit rfl ?_
  refine Pv.icmp rfl (fun c1 => ?_) (fun c1 => ?_)
  · skip
    replace c1 : decide (Int32.ofNat (h_d S) = 400) = false := by simpa using c1
    replace c1 := mt (i_eq (a := h_d S) (b := 400) (by omega) (by omega)).mpr (of_decide_eq_false c1)
    refine Pv.aload rfl rfl ?_
    refine Pv.callVI (as := [.ref 69]) (rest := []) (z := m_board T S) rfl rfl rfl (g_goingSet  (hT.fx (P := fun q => q = 69) (((FX.rf (P := fun q => q = 69))).fp rfl) (by decide)) (hS.fx (P := fun q => q = 69) b3 (((FX.rf (P := fun q => q = 69))).fp rfl) (by decide)) (hG.fx (P := fun _ => True) (((FX.rf (P := fun _ => True))).fp trivial)) (by omega)) ?_
    exact Pv.ret rfl (by rw [hQ]; exact ⟨rfl, ((RDR.rf).fp (Or.inl rfl)).fp (Or.inr (Or.inl rfl))⟩)
  · skip
    replace c1 : decide (Int32.ofNat (h_d S) = 400) = true := by simpa using c1
    replace c1 := (i_eq (a := h_d S) (b := 400) (by omega) (by omega)).mp (of_decide_eq_true c1)
    refine Pv.lit rfl ?_
    refine Pv.goto rfl ?_
    exact Pv.ret rfl (by rw [hQ]; exact ⟨by unfold a_going; rw [board_0 (by omega)], (RDR.rf).fp (Or.inl rfl)⟩)
end
-- 63.b53.sim.lean.txt
section
/-! ===== what would be: the first DAY on which something is so ===== -/
def m_fst (P : Nat → Bool) : Nat → Option Nat
  | 0 => none
  | k + 1 => match m_fst P k with
    | some i => some i
    | none => if P k = true then some k else none
theorem m_fst_n {P : Nat → Bool} {k : Nat} (h : m_fst P k = none) (c : P k = false) : m_fst P (k + 1) = none := by
  unfold m_fst
  rw [h]
  exact if_neg (by rw [c]; decide)
theorem m_fst_s {P : Nat → Bool} {k : Nat} (h : m_fst P k = none) (c : P k = true) : ∀ j, m_fst P (k + 1 + j) = some k
  | 0 => by
    show m_fst P (k + 1) = some k
    unfold m_fst
    rw [h]
    exact if_pos c
  | j + 1 => by
    have ih := m_fst_s h c j
    show m_fst P (k + 1 + j + 1) = some k
    unfold m_fst
    rw [ih]
theorem m_fst_e {P : Nat → Bool} {k n : Nat} (h : m_fst P k = none) (c : P k = true) (hk : k < n) : m_fst P n = some k := by
  have e := m_fst_s h c (n - (k + 1))
  rw [show k + 1 + (n - (k + 1)) = n by omega] at e
  exact e
theorem m_fst_0 {P : Nat → Bool} {k : Nat} (h : m_fst P k = none) : ∀ j, (∀ i, k ≤ i → P i = false) → m_fst P (k + j) = none
  | 0, _ => h
  | j + 1, c => m_fst_n (k := k + j) (m_fst_0 h j c) (c (k + j) (Nat.le_add_right k j))
theorem m_fst_z {P : Nat → Bool} {k n : Nat} (h : m_fst P k = none) (hk : k ≤ n) (c : ∀ i, k ≤ i → P i = false) : m_fst P n = none := by
  have e := m_fst_0 h (n - k) c
  rw [show k + (n - k) = n by omega] at e
  exact e
theorem m_fst_all {P : Nat → Bool} : ∀ {n : Nat}, m_fst P n = none → ∀ i, i < n → P i = false
  | 0, _, i, h => by omega
  | n + 1, h, i, hi => by
    unfold m_fst at h
    split at h
    · cases h
    · rename_i hn
      split at h
      · cases h
      · rename_i c
        by_cases e : i = n
        · rw [e]
          simpa using c
        · exact m_fst_all hn i (by omega)
theorem m_days_400 {T : St} {S : Sh} {k i : Nat} (h : ¬ h_d (m_days T S k) < 400) (hi : k ≤ i) : h_d (m_days T S i) = h_d (m_days T S k) := by rw [m_days_e hi h]
def pCross (T : St) (S : Sh) (m k : Nat) : Bool := decide (h_d (m_days T S k) < 400) && m_bit (m_board T (m_days T S k)) m
def pComes (T : St) (S : Sh) (g s k : Nat) : Bool := decide (h_d (m_days T S k) < 400) && !decide (m_from (m_days T S k) = s) && !decide (m_fr T (m_days T S k) g ≤ 0)
def aDay (T : St) (S : Sh) (q : Option Nat) : Int32 := match q with
  | none => -1
  | some k => Int32.ofNat (h_d (m_days T S k))
def a_crosses (T : St) (S : Sh) (x : Int32) : Int32 := match nd (t_m T) x with
  | none => -1
  | some m => if m_alive S m = true then aDay T S (m_fst (pCross T S m) 100) else -1
def a_comes (T : St) (S : Sh) (x y : Int32) : Int32 := aGS T x y fun g s => aDay T S (m_fst (pComes T S g s) 100)
/-- a number from a to b, or none -/
def ndr (a b : Nat) (x : Int32) : Option Nat := if (a : Int) ≤ x.toInt ∧ x.toInt ≤ b then some x.toInt.toNat else none
theorem ndr_some {a b k : Nat} {x : Int32} (h : ndr a b x = some k) : a ≤ k ∧ k ≤ b ∧ x = Int32.ofNat k := by
  unfold ndr at h
  split at h
  · rename_i c
    obtain rfl := Option.some.inj h
    refine ⟨by omega, by omega, Int32.toInt_inj.mp ?_⟩
    have := Int32.toInt_lt x
    rw [i_toInt (by omega)]
    omega
  · cases h
theorem ndr_t {a b : Nat} {x : Int32} (h : (ndr a b x).isSome = true) : ∃ k, ndr a b x = some k ∧ a ≤ k ∧ k ≤ b ∧ x = Int32.ofNat k := by
  obtain ⟨k, hk⟩ := Option.isSome_iff_exists.mp h
  exact ⟨k, hk, ndr_some hk⟩
theorem ndr_f {a b : Nat} {x : Int32} (h : (ndr a b x).isSome = false) : ndr a b x = none := by
  cases e : ndr a b x with
  | none => rfl
  | some k =>
    rw [e] at h
    cases h
theorem ndr_in {a b : Nat} {x : Int32} (ha : a < 2147483648) (hb : b < 2147483648) : (decide (Int32.ofNat a ≤ x) && decide (x ≤ Int32.ofNat b)) = (ndr a b x).isSome := by
  unfold ndr
  have e1 : (Int32.ofNat a ≤ x) ↔ (a : Int) ≤ x.toInt := by rw [Int32.le_iff_toInt_le, i_toInt ha]
  have e2 : (x ≤ Int32.ofNat b) ↔ x.toInt ≤ b := by rw [Int32.le_iff_toInt_le, i_toInt hb]
  by_cases h1 : (a : Int) ≤ x.toInt
  · rw [decide_eq_true (e1.mpr h1)]
    by_cases h2 : x.toInt ≤ b
    · rw [decide_eq_true (e2.mpr h2), if_pos ⟨h1, h2⟩]
      rfl
    · rw [decide_eq_false (fun c => h2 (e2.mp c)), if_neg (fun c => h2 c.2)]
      rfl
  · rw [decide_eq_false (fun c => h1 (e1.mp c)), if_neg (fun c => h1 c.1)]
    rfl
/-- the DAYS till these two are on one SHORE -/
def pMeet (T : St) (S : Sh) (m o k : Nat) : Bool := decide (h_a (m_days T S k) m = h_a (m_days T S k) o)
def a_meet (T : St) (S : Sh) (x y : Int32) : Int32 := match liv2 T S x y with
  | none => -1
  | some q => match m_fst (pMeet T S q.1 q.2) 101 with
    | none => -1
    | some k => Int32.ofNat k
def a_loads (T : St) (S : Sh) (x : Int32) : Int32 := match ndr 1 60 x with
  | none => -1
  | some n => h_r (m_days T S n) - h_r S
def a_hunger (T : St) (S : Sh) (x y z : Int32) : Int32 := aGS T x y fun g s => match ndr 1 60 z with
  | none => -1
  | some n => h_u (m_days T S n) (2 * g + s) - h_u S (2 * g + s)
/-! ===== PRICES ===== -/
/-- one round over the first k; whether a price has moved -/
def m_pI (T : St) (S : Sh) (f : Nat → Int32) : Nat → Nat → Int32
  | 0 => f
  | k + 1 => if h_s S k < t_a T (1 * 12 + k) then up1 (m_pI T S f k) k (m_pI T S f k k + 1) else if t_a T (1 * 12 + k) < h_s S k ∧ 0 < m_pI T S f k k then up1 (m_pI T S f k) k (m_pI T S f k k - 1) else m_pI T S f k
def m_pM (T : St) (S : Sh) (f : Nat → Int32) : Nat → Bool
  | 0 => false
  | k + 1 => m_pM T S f k || (decide (h_s S k < t_a T (1 * 12 + k)) || (decide (t_a T (1 * 12 + k) < h_s S k) && decide (0 < m_pI T S f k k)))
/-- prices after r rounds -/
def m_row (T : St) (S : Sh) : Nat → Nat → Int32
  | 0 => fun _ => 5
  | r + 1 => m_pI T (m_days T S r) (m_row T S r) (2 * t_g T)
def pRest (T : St) (S : Sh) (r : Nat) : Bool := !m_pM T (m_days T S r) (m_row T S r) (2 * t_g T)
def m_rounds (T : St) (S : Sh) : Nat := match m_fst (pRest T S) 59 with
  | none => 60
  | some r => r + 1
/-! ===== WHICH ===== -/
def m_wh (T : St) (k : Nat) (B : Nat → Int32) : Nat → Bool
  | 0 => true
  | i + 1 => m_wh T k B i && decide (ab_max 0 (m_left T k (B (i + 1))) = B (i + 2))
/-- by a tape of n bytes B -/
def a_which (T : St) (n : Nat) (B : Nat → Int32) : Int32 := if 3 ≤ n ∧ n ≤ 31 then match nd 2 (B 0) with
  | none => -1
  | some s => m_bits (fun g => m_wh T (2 * g + s) B (n - 2)) id (t_g T)
  else -1
/-! ===== DEEDS ===== -/
def m_why (d : Nat) (S : Sh) (k : Nat) (n : Int32) : Int32 := match d with
  | 1 => if h_h S k < n then 1 else if 999 < h_s S k + n then 2 else 0
  | 3 => if m_alive S k = true then 0 else 1
  | _ => if h_s S k < n then 1 else 0
def m_do (d : Nat) (S : Sh) (k : Nat) (n : Int32) : Sh := match d with
  | 0 => (up1 (h_s S) k (h_s S k + -n), up1 (h_h S) k (h_h S k + n), S.2.2)
  | 1 => (up1 (h_s S) k (h_s S k + n), up1 (h_h S) k (h_h S k - n), S.2.2)
  | 2 => (up1 (h_s S) k (h_s S k + -n), S.2)
  | _ => (h_s S, h_h S, h_u S, h_c S, up1 (h_a S) k (-1), S.2.2.2.2.2)
def m_try (d : Nat) (S : Sh) (k : Nat) (n : Int32) : Sh := if m_why d S k n = 0 then m_do d S k n else S
/-! ===== DRAWS ===== -/
def m_nx (x : Int32) : Int32 := x * 1103515245 + 12345
def m_ush (x : Int32) : Int32 := (x.toUInt32 >>> ((8 : Int32).toUInt32 &&& Int32.toUInt32 31)).toInt32
def dr (x : Int32) (n : Nat) : Nat := (m_ush x).toInt.toNat % n
theorem ush_0 (x : Int32) : 0 ≤ (m_ush x).toInt := by
  unfold m_ush
  have h : (x.toUInt32 >>> ((8 : Int32).toUInt32 &&& Int32.toUInt32 31)).toNat < 2147483648 := by
    rw [UInt32.toNat_shiftRight]
    have e : ((8 : Int32).toUInt32 &&& Int32.toUInt32 31).toNat % 32 = 8 := by decide
    rw [e, Nat.shiftRight_eq_div_pow]
    have := x.toUInt32.toNat_lt
    omega
  have h2 : (x.toUInt32 >>> ((8 : Int32).toUInt32 &&& Int32.toUInt32 31)).toInt32.toInt = ((x.toUInt32 >>> ((8 : Int32).toUInt32 &&& Int32.toUInt32 31)).toNat : Int) := by
    show BitVec.toInt _ = _
    exact BitVec.toInt_eq_toNat_of_lt (by show 2 * (x.toUInt32 >>> ((8 : Int32).toUInt32 &&& Int32.toUInt32 31)).toNat < 2 ^ 32; omega)
  rw [h2]
  omega
theorem dr_rem {x : Int32} {n : Nat} (hn : 0 < n) (h1 : n < 1000) : m_ush x - m_ush x / Int32.ofNat n * Int32.ofNat n = Int32.ofNat (dr x n) := by
  have h0 := ush_0 x
  have hu := Int32.toInt_lt (m_ush x)
  have e : (Int32.ofNat n).toInt = n := i_toInt (by omega)
  have hm : (m_ush x).toInt.toNat % n < n := Nat.mod_lt _ hn
  rw [← Int32.toInt_inj, Int32.toInt_sub, Int32.toInt_mul, Int32.toInt_div, e]
  unfold dr
  rw [i_toInt (by omega)]
  have q : (m_ush x).toInt.tdiv n = ((m_ush x).toInt.toNat / n : Nat) := by
    rw [Int.tdiv_eq_ediv_of_nonneg h0]
    have : (m_ush x).toInt = ((m_ush x).toInt.toNat : Int) := by omega
    rw [this]
    rfl
  rw [q]
  have hd : (m_ush x).toInt.toNat / n * n ≤ (m_ush x).toInt.toNat := Nat.div_mul_le_self _ _
  have hd2 : (m_ush x).toInt.toNat / n ≤ (m_ush x).toInt.toNat := Nat.div_le_self _ _
  have hda := Nat.div_add_mod' (m_ush x).toInt.toNat n
  clear q hm
  generalize (m_ush x).toInt.toNat % n = r at *
  generalize (m_ush x).toInt.toNat / n = q at *
  have b1 : Int.bmod ((q : Nat) : Int) (2 ^ 32) = ((q : Nat) : Int) := Int.bmod_eq_of_le (by omega) (by omega)
  rw [b1]
  have hp : ((q : Nat) : Int) * (n : Int) = ((q * n : Nat) : Int) := by rw [Int.natCast_mul]
  rw [hp]
  generalize q * n = p at *
  have b2 : Int.bmod ((p : Nat) : Int) (2 ^ 32) = ((p : Nat) : Int) := Int.bmod_eq_of_le (by omega) (by omega)
  rw [b2]
  have hs : (m_ush x).toInt - ((p : Nat) : Int) = ((r : Nat) : Int) := by omega
  rw [hs]
  exact Int.bmod_eq_of_le (by omega) (by omega)
/-- what is drawn ahead of a DAY: the state, the seed behind it -/
def m_dDs (T : St) (S : Sh) (x : Int32) : Sh := if dr (m_nx x) 6 < 3 then m_try (dr (m_nx x) 6) S (2 * dr (m_nx (m_nx x)) (t_g T) + dr (m_nx (m_nx (m_nx x))) 2) (Int32.ofNat (dr (m_nx (m_nx (m_nx (m_nx x)))) 20 + 1)) else S
def m_dDx (T : St) (S : Sh) (x : Int32) : Int32 := if dr (m_nx x) 6 < 3 then m_nx (m_nx (m_nx (m_nx x))) else m_nx x
def m_dXs (T : St) (S : Sh) (x : Int32) : Sh := if dr (m_nx x) 90 = 0 ∧ 0 < t_m T then m_try 3 S (dr (m_nx (m_nx x)) (t_m T)) 0 else S
def m_dXx (T : St) (S : Sh) (x : Int32) : Int32 := if dr (m_nx x) 90 = 0 ∧ 0 < t_m T then m_nx (m_nx x) else m_nx x
def m_d1 (T : St) (S : Sh) (x : Int32) : Sh := m_day T (m_dXs T (m_dDs T S x) (m_dDx T S x))
def m_d2 (T : St) (S : Sh) (x : Int32) : Int32 := m_dXx T (m_dDs T S x) (m_dDx T S x)
def m_drawn (T : St) (q : Sh × Int32) : Nat → Sh × Int32
  | 0 => q
  | n + 1 => if h_d (m_drawn T q n).1 < 400 then (m_d1 T (m_drawn T q n).1 (m_drawn T q n).2, m_d2 T (m_drawn T q n).1 (m_drawn T q n).2) else m_drawn T q n
theorem wh_t {T : St} {j : Nat} {B : Nat → Int32} {n : Nat} (h : m_wh T j B n = true) (c : ab_max 0 (m_left T j (B (n + 1))) = B (n + 2)) : m_wh T j B (n + 1) = true := by
  show (_ && _) = true
  rw [h, Bool.true_and]
  exact decide_eq_true c
theorem wh_f {T : St} {j : Nat} {B : Nat → Int32} {i : Nat} (c : ¬ ab_max 0 (m_left T j (B (i + 1))) = B (i + 2)) : ∀ d, m_wh T j B (i + 1 + d) = false
  | 0 => by
    show (_ && _) = false
    rw [decide_eq_false c, Bool.and_false]
  | d + 1 => by
    show (m_wh T j B (i + 1 + d) && _) = false
    rw [wh_f c d, Bool.false_and]
theorem wh_z {T : St} {j : Nat} {B : Nat → Int32} {i n : Nat} (c : ¬ ab_max 0 (m_left T j (B (i + 1))) = B (i + 2)) (h : i < n) : m_wh T j B n = false := by
  have e := wh_f (T := T) (j := j) c (n - (i + 1))
  rw [show i + 1 + (n - (i + 1)) = n by omega] at e
  exact e
theorem i_subN {a b : Nat} (h : b ≤ a) : Int32.ofNat a - Int32.ofNat b = Int32.ofNat (a - b) := by
  apply Int32.toBitVec_inj.mp
  show BitVec.ofNat 32 a - BitVec.ofNat 32 b = BitVec.ofNat 32 (a - b)
  apply BitVec.eq_of_toNat_eq
  simp only [BitVec.toNat_sub, BitVec.toNat_ofNat]
  omega
theorem days_1 {F : FW} {p m k : Nat} {T : St} {S : Sh} (h : SHR F p m (m_days T (m_days T S k) 1)) : SHR F p m (m_days T S (k + 1)) := h
theorem rounds_r {T : St} {S : Sh} {r : Nat} (h : m_fst (pRest T S) r = none) (c : pRest T S r = true) (hr : r < 59) : m_rounds T S = r + 1 := by
  unfold m_rounds
  rw [m_fst_e h c hr]
theorem rounds_60 {T : St} {S : Sh} (h : m_fst (pRest T S) 59 = none) : m_rounds T S = 60 := by
  unfold m_rounds
  rw [h]
theorem h_d_do {d : Nat} {S : Sh} {k : Nat} {n : Int32} : h_d (m_do d S k n) = h_d S := by
  unfold m_do
  split <;> rfl
theorem h_d_try {d : Nat} {S : Sh} {k : Nat} {n : Int32} : h_d (m_try d S k n) = h_d S := by
  unfold m_try
  by_cases c : m_why d S k n = 0
  · rw [if_pos c]
    exact h_d_do
  · rw [if_neg c]
theorem h_d_drawD {T : St} {S : Sh} {x : Int32} : h_d (m_dDs T S x) = h_d S := by
  unfold m_dDs
  by_cases c : dr (m_nx x) 6 < 3
  · rw [if_pos c]
    exact h_d_try
  · rw [if_neg c]
theorem h_d_drawX {T : St} {S : Sh} {x : Int32} : h_d (m_dXs T S x) = h_d S := by
  unfold m_dXs
  by_cases c : dr (m_nx x) 90 = 0 ∧ 0 < t_m T
  · rw [if_pos c]
    exact h_d_try
  · rw [if_neg c]
theorem drawn_x {T : St} {q : Sh × Int32} {n : Nat} (h : ¬ h_d (m_drawn T q n).1 < 400) : ∀ k, m_drawn T q (n + k) = m_drawn T q n
  | 0 => rfl
  | k + 1 => by
    have e := drawn_x h k
    show (if h_d (m_drawn T q (n + k)).1 < 400 then _ else m_drawn T q (n + k)) = _
    rw [e, if_neg h]
theorem drawn_e {T : St} {q : Sh × Int32} {k n : Nat} (hk : k ≤ n) (h : ¬ h_d (m_drawn T q k).1 < 400) : m_drawn T q n = m_drawn T q k := by
  have e := drawn_x h (n - k)
  rw [show k + (n - k) = n by omega] at e
  exact e
def m_cnt (f : Nat → Bool) : Nat → Int32
  | 0 => 0
  | k + 1 => if f k = true then m_cnt f k + 1 else m_cnt f k
def a_odds (T : St) (S : Sh) (x y z : Int32) : Int32 := match nd (t_m T) x with
  | none => -1
  | some m => match ndr 1 30 y with
    | none => -1
    | some n => if t_g T = 0 then -1 else m_cnt (fun i => decide (h_t S m < h_t (m_drawn T (S, z + Int32.ofNat i) 20).1 m)) n
theorem days_one {T : St} {S : Sh} (h : h_d S < 400) : m_days T S 1 = m_day T S := if_pos h
theorem drawn_s {T : St} {q : Sh × Int32} {n : Nat} (h : h_d (m_drawn T q n).1 < 400) : m_drawn T q (n + 1) = (m_d1 T (m_drawn T q n).1 (m_drawn T q n).2, m_d2 T (m_drawn T q n).1 (m_drawn T q n).2) := if_pos h
theorem drawn_1 {T : St} {q : Sh × Int32} {n : Nat} (h : h_d (m_drawn T q n).1 < 400) : (m_drawn T q (n + 1)).1 = m_d1 T (m_drawn T q n).1 (m_drawn T q n).2 := by rw [drawn_s h]
theorem drawn_2 {T : St} {q : Sh × Int32} {n : Nat} (h : h_d (m_drawn T q n).1 < 400) : (m_drawn T q (n + 1)).2 = m_d2 T (m_drawn T q n).1 (m_drawn T q n).2 := by rw [drawn_s h]
end
-- 63.b54.os.lean.txt
section
set_option maxRecDepth 100000 in
set_option maxHeartbeats 4000000 in
theorem o_isWithin {F : FW} (x z : Int32) : Pm Z_X10_isWithin [.int x, .int z] F (fun r F' => r = some (.int (b2i (decide (1 ≤ x) && decide (x ≤ z)))) ∧ F' = F) := by
  refine Pm.of fun N => ?_
  obtain ⟨Q, hQ⟩ : ∃ Q : Option Value → FW → Prop, Q = (fun r F' => r = some (.int (b2i (decide (1 ≤ x) && decide (x ≤ z)))) ∧ F' = F) := ⟨_, rfl⟩
  rw [← hQ]
  refine (show Pv (ab_T L_X10_isWithin) N 0 [some (.int x), some (.int z)] [] F Q from ?_)
  refine Pv.iload rfl rfl ?_
  refine Pv.lit rfl ?_
  refine Pv.icmp rfl (fun c1 => ?_) (fun c1 => ?_)
  · skip
    replace c1 := of_decide_eq_true c1
    refine Pv.lit rfl ?_
    exact Pv.zret rfl (by rw [hQ]; exact ⟨b2_f (by rw [decide_eq_false (Int32.not_le.mpr c1)]; rfl), rfl⟩)
  · skip
    replace c1 := of_decide_eq_false c1
    refine Pv.iload rfl rfl ?_
    refine Pv.iload rfl rfl ?_
    refine Pv.icmp rfl (fun c2 => ?_) (fun c2 => ?_)
    · skip
      replace c2 := of_decide_eq_true c2
      refine Pv.lit rfl ?_
      exact Pv.zret rfl (by rw [hQ]; exact ⟨b2_f (by rw [decide_eq_false (Int32.not_le.mpr c2), Bool.and_false]), rfl⟩)
    · skip
      replace c2 := of_decide_eq_false c2
      refine Pv.lit rfl ?_
      refine Pv.goto rfl ?_
      exact Pv.zret rfl (by rw [hQ]; exact ⟨b2_t (by rw [decide_eq_true (Int32.not_lt.mp c1), decide_eq_true (Int32.not_lt.mp c2)]; rfl), rfl⟩)
set_option maxRecDepth 100000 in
set_option maxHeartbeats 4000000 in
theorem o_loads {F : FW} {t : Nat} {T : St} {S : Sh} (hG : GW F) (ht : F.2.1 0 13 = .ref t) (hT : TR F t T) (hS : SHR F 12 (t_m T) S) (j0 : t = 45 ∨ t = 53) (x : Int32) : Pm Z_X10_loads [.ref 0, .int x] F (fun r F' => r = some (.int (a_loads T S x)) ∧ CDR F F') := by
  refine Pm.of fun N => ?_
  obtain ⟨Q, hQ⟩ : ∃ Q : Option Value → FW → Prop, Q = (fun r F' => r = some (.int (a_loads T S x)) ∧ CDR F F') := ⟨_, rfl⟩
  rw [← hQ]
  have b3 := hT.mb
  have b4 := hT.nb
  have b5 := hT.gb
  have b6 := m_from_lt S
  have b7 := hS.db
  refine (show Pv (ab_T (L_X10_loads Z_X10_isWithin Z_X6_copyFrom Z_X1_passDays)) N 0 [some (.ref 0), some (.int x)] [] F Q from ?_)
  refine Pv.iload rfl rfl ?_
  refine Pv.lit rfl ?_
  refine Pv.callI (as := [.int x, .int 60]) (rest := []) (z := b2i (decide (1 ≤ x) && decide (x ≤ 60))) rfl rfl rfl ((o_isWithin x 60)) ?_
  refine Pv.if0 rfl (fun c1 => ?_) (fun c1 => ?_)
  · skip
    replace c1 : decide (b2i (decide (1 ≤ x) && decide (x ≤ 60)) = 0) = false := by simpa using c1
    replace c1 := of_decide_eq_false c1
    replace c1 := b2n.mp c1
    obtain ⟨n, hn, hna, hnb, rfl⟩ := ndr_t ((ndr_in (a := 1) (b := 60) (by omega) (by omega)).symm.trans c1)
    refine Pv.aload rfl rfl ?_
    refine Pv.getR (v := .ref 20) rfl rfl (GW.at (a := 0) (k := 5) (b := 20) hG (by decide)) ?_
    refine Pv.aload rfl rfl ?_
    refine Pv.getR (v := .ref 12) rfl rfl (GW.at (a := 0) (k := 4) (b := 12) hG (by decide)) ?_
    refine Pv.callV (as := [.ref 20, .ref 12]) (rest := []) rfl rfl rfl (f_shCopy (GW.o20 hG) hS b3 (by omega)) ?_
    rintro _ G2 ⟨rfl, x3, sr5⟩
    have hx4 := FX.tr (P := fun q => (7 ≤ q ∧ q ≤ 9) ∨ (20 ≤ q ∧ q ≤ 35) ∨ q = 40 ∨ q = 43) FX.rf (x3.wd (fun q (c : 20 ≤ q ∧ q ≤ 20 + 7) => (show (7 ≤ q ∧ q ≤ 9) ∨ (20 ≤ q ∧ q ≤ 35) ∨ q = 40 ∨ q = 43 by omega)))
    have hx6 := hT.fx (P := fun q => 20 ≤ q ∧ q ≤ 20 + 7) x3 (fun q h1 h2 (c : 20 ≤ q ∧ q ≤ 20 + 7) => by omega)
    have hx7 := hS.fx (P := fun q => 20 ≤ q ∧ q ≤ 20 + 7) x3 (fun q h1 h2 (c : 20 ≤ q ∧ q ≤ 20 + 7) => by omega)
    have hx8 := hG.fx (P := fun q => 20 ≤ q ∧ q ≤ 20 + 7) x3
    have hr9 : G2.2.1 0 13 = .ref t := by rw [x3.2.2.1]; exact ht
    refine (show Pv _ _ 22 [some (.ref 0), some (.int (Int32.ofNat n))] [] G2 Q from ?_)
    refine Pv.aload rfl rfl ?_
    refine Pv.getR (v := .ref 7) rfl rfl (GW.at (a := 0) (k := 2) (b := 7) hx8 (by decide)) ?_
    refine Pv.aload rfl rfl ?_
    refine Pv.getR (v := .ref t) rfl rfl (hr9) ?_
    refine Pv.aload rfl rfl ?_
    refine Pv.getR (v := .ref 20) rfl rfl (GW.at (a := 0) (k := 5) (b := 20) hx8 (by decide)) ?_
    refine Pv.iload rfl rfl ?_
    refine Pv.callV (as := [.ref 7, .ref t, .ref 20, .int (Int32.ofNat n)]) (rest := []) rfl rfl rfl (f_passDays (n := n) hx6 sr5 hx8 (by omega) (by omega) (by omega) (by omega)) ?_
    rintro _ G10 ⟨rfl, x11, sr13, pl14⟩
    have hx12 := FX.tr (P := fun q => (7 ≤ q ∧ q ≤ 9) ∨ (20 ≤ q ∧ q ≤ 35) ∨ q = 40 ∨ q = 43) hx4 (x11.wd (fun q (c : (20 ≤ q ∧ q ≤ 20 + 7) ∨ (7 ≤ q ∧ q ≤ 9)) => (show (7 ≤ q ∧ q ≤ 9) ∨ (20 ≤ q ∧ q ≤ 35) ∨ q = 40 ∨ q = 43 by omega)))
    have hx15 := hx6.fx (P := fun q => (20 ≤ q ∧ q ≤ 20 + 7) ∨ (7 ≤ q ∧ q ≤ 9)) x11 (fun q h1 h2 (c : (20 ≤ q ∧ q ≤ 20 + 7) ∨ (7 ≤ q ∧ q ≤ 9)) => by omega)
    have hx16 := hx7.fx (P := fun q => (20 ≤ q ∧ q ≤ 20 + 7) ∨ (7 ≤ q ∧ q ≤ 9)) x11 (fun q h1 h2 (c : (20 ≤ q ∧ q ≤ 20 + 7) ∨ (7 ≤ q ∧ q ≤ 9)) => by omega)
    have hx17 := hx8.fx (P := fun q => (20 ≤ q ∧ q ≤ 20 + 7) ∨ (7 ≤ q ∧ q ≤ 9)) x11
    have hr18 : G10.2.1 0 13 = .ref t := by rw [x11.2.2.1]; exact hr9
    refine (show Pv _ _ 38 [some (.ref 0), some (.int (Int32.ofNat n))] [.int (Int32.ofNat (h_d (m_days T S n)) - Int32.ofNat (h_d S))] G10 Q from ?_)
    refine Pv.pop rfl ?_
    refine Pv.aload rfl rfl ?_
    refine Pv.getR (v := .ref 20) rfl rfl (GW.at (a := 0) (k := 5) (b := 20) hx17 (by decide)) ?_
    refine Pv.getI (z := h_r (m_days T S n)) rfl rfl (sr13.r) ?_
    refine Pv.aload rfl rfl ?_
    refine Pv.getR (v := .ref 12) rfl rfl (GW.at (a := 0) (k := 4) (b := 12) hx17 (by decide)) ?_
    refine Pv.getI (z := h_r S) rfl rfl (hx16.r) ?_
    refine Pv.bin (z := (h_r (m_days T S n)) - (h_r S)) rfl (rfl) ?_
    exact Pv.ret rfl (by rw [hQ]; exact ⟨by unfold a_loads; rw [hn], hx12⟩)
  · skip
    replace c1 : decide (b2i (decide (1 ≤ x) && decide (x ≤ 60)) = 0) = true := by simpa using c1
    replace c1 := of_decide_eq_true c1
    replace c1 := b2z.mp c1
    refine Pv.lit rfl ?_
    exact Pv.ret rfl (by rw [hQ]; exact ⟨by unfold a_loads; rw [ndr_f ((ndr_in (a := 1) (b := 60) (by omega) (by omega)).symm.trans c1)], FX.rf⟩)
set_option maxRecDepth 100000 in
set_option maxHeartbeats 4000000 in
theorem o_hunger {F : FW} {t : Nat} {T : St} {S : Sh} (hG : GW F) (ht : F.2.1 0 13 = .ref t) (hT : TR F t T) (hS : SHR F 12 (t_m T) S) (j0 : t = 45 ∨ t = 53) (x y z : Int32) : Pm Z_X10_hunger [.ref 0, .int x, .int y, .int z] F (fun r F' => r = some (.int (a_hunger T S x y z)) ∧ CDR F F') := by
  refine Pm.of fun N => ?_
  obtain ⟨Q, hQ⟩ : ∃ Q : Option Value → FW → Prop, Q = (fun r F' => r = some (.int (a_hunger T S x y z)) ∧ CDR F F') := ⟨_, rfl⟩
  rw [← hQ]
  have b3 := hT.mb
  have b4 := hT.nb
  have b5 := hT.gb
  have b6 := m_from_lt S
  have b7 := hS.db
  refine (show Pv (ab_T (L_X10_hunger Z_X10_isSlot Z_X10_isWithin Z_X10_slotOf Z_X6_copyFrom Z_X1_passDays)) N 0 [some (.ref 0), some (.int x), some (.int y), some (.int z), none] [] F Q from ?_)
  refine Pv.aload rfl rfl ?_
  refine Pv.iload rfl rfl ?_
  refine Pv.iload rfl rfl ?_
  refine Pv.callVI (as := [.ref 0, .int x, .int y]) (rest := []) (z := b2i ((nd (t_g T) x).isSome && (nd 2 y).isSome)) rfl rfl rfl (o_isSlot hG ht hT hS j0 x y) ?_
  refine Pv.if0 rfl (fun c1 => ?_) (fun c1 => ?_)
  · skip
    replace c1 := of_decide_eq_true c1
    replace c1 := b2z.mp c1
    refine Pv.lit rfl ?_
    exact Pv.ret rfl (by rw [hQ]; exact ⟨by unfold a_hunger; rw [aGS_f c1], FX.rf⟩)
  · skip
    replace c1 := of_decide_eq_false c1
    replace c1 := b2n.mp c1
    obtain ⟨g, s, hg, hs, hgl, hsl, rfl, rfl⟩ := gs_t c1
    refine Pv.iload rfl rfl ?_
    refine Pv.lit rfl ?_
    refine Pv.callI (as := [.int z, .int 60]) (rest := []) (z := b2i (decide (1 ≤ z) && decide (z ≤ 60))) rfl rfl rfl ((o_isWithin z 60)) ?_
    refine Pv.if0 rfl (fun c2 => ?_) (fun c2 => ?_)
    · skip
      replace c2 : decide (b2i (decide (1 ≤ z) && decide (z ≤ 60)) = 0) = false := by simpa using c2
      replace c2 := of_decide_eq_false c2
      replace c2 := b2n.mp c2
      obtain ⟨n, hn, hna, hnb, rfl⟩ := ndr_t ((ndr_in (a := 1) (b := 60) (by omega) (by omega)).symm.trans c2)
      refine Pv.iload rfl rfl ?_
      refine Pv.iload rfl rfl ?_
      refine Pv.callI (as := [.int (Int32.ofNat g), .int (Int32.ofNat s)]) (rest := []) (z := Int32.ofNat (2 * g + s)) rfl rfl rfl (f_slotOf (g := g) (s := s)) ?_
      refine Pv.istore (lo' := [some (.ref 0), some (.int (Int32.ofNat g)), some (.int (Int32.ofNat s)), some (.int (Int32.ofNat n)), some (.int (Int32.ofNat (2 * g + s)))]) rfl rfl ?_
      refine Pv.aload rfl rfl ?_
      refine Pv.getR (v := .ref 20) rfl rfl (GW.at (a := 0) (k := 5) (b := 20) hG (by decide)) ?_
      refine Pv.aload rfl rfl ?_
      refine Pv.getR (v := .ref 12) rfl rfl (GW.at (a := 0) (k := 4) (b := 12) hG (by decide)) ?_
      refine Pv.callV (as := [.ref 20, .ref 12]) (rest := []) rfl rfl rfl (f_shCopy (GW.o20 hG) hS b3 (by omega)) ?_
      rintro _ G3 ⟨rfl, x4, sr6⟩
      have hx5 := FX.tr (P := fun q => (7 ≤ q ∧ q ≤ 9) ∨ (20 ≤ q ∧ q ≤ 35) ∨ q = 40 ∨ q = 43) FX.rf (x4.wd (fun q (c : 20 ≤ q ∧ q ≤ 20 + 7) => (show (7 ≤ q ∧ q ≤ 9) ∨ (20 ≤ q ∧ q ≤ 35) ∨ q = 40 ∨ q = 43 by omega)))
      have hx7 := hT.fx (P := fun q => 20 ≤ q ∧ q ≤ 20 + 7) x4 (fun q h1 h2 (c : 20 ≤ q ∧ q ≤ 20 + 7) => by omega)
      have hx8 := hS.fx (P := fun q => 20 ≤ q ∧ q ≤ 20 + 7) x4 (fun q h1 h2 (c : 20 ≤ q ∧ q ≤ 20 + 7) => by omega)
      have hx9 := hG.fx (P := fun q => 20 ≤ q ∧ q ≤ 20 + 7) x4
      have hr10 : G3.2.1 0 13 = .ref t := by rw [x4.2.2.1]; exact ht
      refine (show Pv _ _ 38 [some (.ref 0), some (.int (Int32.ofNat g)), some (.int (Int32.ofNat s)), some (.int (Int32.ofNat n)), some (.int (Int32.ofNat (2 * g + s)))] [] G3 Q from ?_)
      refine Pv.aload rfl rfl ?_
      refine Pv.getR (v := .ref 7) rfl rfl (GW.at (a := 0) (k := 2) (b := 7) hx9 (by decide)) ?_
      refine Pv.aload rfl rfl ?_
      refine Pv.getR (v := .ref t) rfl rfl (hr10) ?_
      refine Pv.aload rfl rfl ?_
      refine Pv.getR (v := .ref 20) rfl rfl (GW.at (a := 0) (k := 5) (b := 20) hx9 (by decide)) ?_
      refine Pv.iload rfl rfl ?_
      refine Pv.callV (as := [.ref 7, .ref t, .ref 20, .int (Int32.ofNat n)]) (rest := []) rfl rfl rfl (f_passDays (n := n) hx7 sr6 hx9 (by omega) (by omega) (by omega) (by omega)) ?_
      rintro _ G11 ⟨rfl, x12, sr14, pl15⟩
      have hx13 := FX.tr (P := fun q => (7 ≤ q ∧ q ≤ 9) ∨ (20 ≤ q ∧ q ≤ 35) ∨ q = 40 ∨ q = 43) hx5 (x12.wd (fun q (c : (20 ≤ q ∧ q ≤ 20 + 7) ∨ (7 ≤ q ∧ q ≤ 9)) => (show (7 ≤ q ∧ q ≤ 9) ∨ (20 ≤ q ∧ q ≤ 35) ∨ q = 40 ∨ q = 43 by omega)))
      have hx16 := hx7.fx (P := fun q => (20 ≤ q ∧ q ≤ 20 + 7) ∨ (7 ≤ q ∧ q ≤ 9)) x12 (fun q h1 h2 (c : (20 ≤ q ∧ q ≤ 20 + 7) ∨ (7 ≤ q ∧ q ≤ 9)) => by omega)
      have hx17 := hx8.fx (P := fun q => (20 ≤ q ∧ q ≤ 20 + 7) ∨ (7 ≤ q ∧ q ≤ 9)) x12 (fun q h1 h2 (c : (20 ≤ q ∧ q ≤ 20 + 7) ∨ (7 ≤ q ∧ q ≤ 9)) => by omega)
      have hx18 := hx9.fx (P := fun q => (20 ≤ q ∧ q ≤ 20 + 7) ∨ (7 ≤ q ∧ q ≤ 9)) x12
      have hr19 : G11.2.1 0 13 = .ref t := by rw [x12.2.2.1]; exact hr10
      refine (show Pv _ _ 54 [some (.ref 0), some (.int (Int32.ofNat g)), some (.int (Int32.ofNat s)), some (.int (Int32.ofNat n)), some (.int (Int32.ofNat (2 * g + s)))] [.int (Int32.ofNat (h_d (m_days T S n)) - Int32.ofNat (h_d S))] G11 Q from ?_)
      refine Pv.pop rfl ?_
      refine Pv.aload rfl rfl ?_
      refine Pv.getR (v := .ref 20) rfl rfl (GW.at (a := 0) (k := 5) (b := 20) hx18 (by decide)) ?_
      refine Pv.getR (v := .ref 23) rfl rfl (sr14.o 2 (by decide)) ?_
      refine Pv.iload rfl rfl ?_
      refine Pv.ald (z := h_u (m_days T S n) (2 * g + s)) rfl (by rw [i_toNat (by omega)]; exact sr14.u _ (by omega)) ?_
      refine Pv.aload rfl rfl ?_
      refine Pv.getR (v := .ref 12) rfl rfl (GW.at (a := 0) (k := 4) (b := 12) hx18 (by decide)) ?_
      refine Pv.getR (v := .ref 15) rfl rfl (hx17.o 2 (by decide)) ?_
      refine Pv.iload rfl rfl ?_
      refine Pv.ald (z := h_u S (2 * g + s)) rfl (by rw [i_toNat (by omega)]; exact hx17.u _ (by omega)) ?_
      refine Pv.bin (z := (h_u (m_days T S n) (2 * g + s)) - (h_u S (2 * g + s))) rfl (rfl) ?_
      exact Pv.ret rfl (by rw [hQ]; exact ⟨by unfold a_hunger; rw [aGS_t hg hs, hn], hx13⟩)
    · skip
      replace c2 : decide (b2i (decide (1 ≤ z) && decide (z ≤ 60)) = 0) = true := by simpa using c2
      replace c2 := of_decide_eq_true c2
      replace c2 := b2z.mp c2
      refine Pv.lit rfl ?_
      exact Pv.ret rfl (by rw [hQ]; exact ⟨by unfold a_hunger; rw [aGS_t hg hs, ndr_f ((ndr_in (a := 1) (b := 60) (by omega) (by omega)).symm.trans c2)], FX.rf⟩)
set_option maxRecDepth 100000 in
set_option maxHeartbeats 4000000 in
theorem o_crosses {F : FW} {t : Nat} {T : St} {S : Sh} (hG : GW F) (ht : F.2.1 0 13 = .ref t) (hT : TR F t T) (hS : SHR F 12 (t_m T) S) (j0 : t = 45 ∨ t = 53) (x : Int32) : Pm Z_X10_crosses [.ref 0, .int x] F (fun r F' => r = some (.int (a_crosses T S x)) ∧ CDR F F') := by
  refine Pm.of fun N => ?_
  obtain ⟨Q, hQ⟩ : ∃ Q : Option Value → FW → Prop, Q = (fun r F' => r = some (.int (a_crosses T S x)) ∧ CDR F F') := ⟨_, rfl⟩
  rw [← hQ]
  have b3 := hT.mb
  have b4 := hT.nb
  have b5 := hT.gb
  have b6 := m_from_lt S
  have b7 := hS.db
  refine (show Pv (ab_T (L_X10_crosses Z_X10_isMan Z_X6_isAlive Z_X6_copyFrom Z_X1_passDays)) N 0 [some (.ref 0), some (.int x), none, none] [] F Q from ?_)
  refine Pv.aload rfl rfl ?_
  refine Pv.iload rfl rfl ?_
  refine Pv.callVI (as := [.ref 0, .int x]) (rest := []) (z := b2i (nd (t_m T) x).isSome) rfl rfl rfl (o_isMan hG ht hT hS j0 x) ?_
  refine Pv.if0 rfl (fun c1 => ?_) (fun c1 => ?_)
  · skip
    replace c1 := of_decide_eq_true c1
    replace c1 := b2z.mp c1
    refine Pv.lit rfl ?_
    exact Pv.ret rfl (by rw [hQ]; exact ⟨by unfold a_crosses; rw [nd_f c1], FX.rf⟩)
  · skip
    replace c1 := of_decide_eq_false c1
    replace c1 := b2n.mp c1
    obtain ⟨m, hm, hml, rfl⟩ := nd_t c1
    refine Pv.aload rfl rfl ?_
    refine Pv.getR (v := .ref 12) rfl rfl (GW.at (a := 0) (k := 4) (b := 12) hG (by decide)) ?_
    refine Pv.iload rfl rfl ?_
    refine Pv.callVI (as := [.ref 12, .int (Int32.ofNat m)]) (rest := []) (z := b2i (m_alive S m)) rfl rfl rfl (f_isAlive (m := m) hS (by omega) (by omega)) ?_
    refine Pv.if0 rfl (fun c2 => ?_) (fun c2 => ?_)
    · skip
      replace c2 : decide (b2i (m_alive S m) = 0) = false := by simpa using c2
      replace c2 := of_decide_eq_false c2
      replace c2 := b2n.mp c2
      have al := c2
      refine Pv.aload rfl rfl ?_
      refine Pv.getR (v := .ref 20) rfl rfl (GW.at (a := 0) (k := 5) (b := 20) hG (by decide)) ?_
      refine Pv.aload rfl rfl ?_
      refine Pv.getR (v := .ref 12) rfl rfl (GW.at (a := 0) (k := 4) (b := 12) hG (by decide)) ?_
      refine Pv.callV (as := [.ref 20, .ref 12]) (rest := []) rfl rfl rfl (f_shCopy (GW.o20 hG) hS b3 (by omega)) ?_
      rintro _ G3 ⟨rfl, x4, sr6⟩
      have hx5 := FX.tr (P := fun q => (7 ≤ q ∧ q ≤ 9) ∨ (20 ≤ q ∧ q ≤ 35) ∨ q = 40 ∨ q = 43) FX.rf (x4.wd (fun q (c : 20 ≤ q ∧ q ≤ 20 + 7) => (show (7 ≤ q ∧ q ≤ 9) ∨ (20 ≤ q ∧ q ≤ 35) ∨ q = 40 ∨ q = 43 by omega)))
      have hx7 := hT.fx (P := fun q => 20 ≤ q ∧ q ≤ 20 + 7) x4 (fun q h1 h2 (c : 20 ≤ q ∧ q ≤ 20 + 7) => by omega)
      have hx8 := hS.fx (P := fun q => 20 ≤ q ∧ q ≤ 20 + 7) x4 (fun q h1 h2 (c : 20 ≤ q ∧ q ≤ 20 + 7) => by omega)
      have hx9 := hG.fx (P := fun q => 20 ≤ q ∧ q ≤ 20 + 7) x4
      have hr10 : G3.2.1 0 13 = .ref t := by rw [x4.2.2.1]; exact ht
      refine (show Pv _ _ 32 [some (.ref 0), some (.int (Int32.ofNat m)), none, none] [] G3 Q from ?_)
      refine Pv.lit rfl ?_
      refine Pv.istore (lo' := [some (.ref 0), some (.int (Int32.ofNat m)), some (.int 0), none]) rfl rfl ?_
      refine Pv.lp (ι := Nat × FW × (Option Value)) (lof := fun ⟨k, G, o11⟩ => [some (.ref 0), some (.int (Int32.ofNat m)), some (.int (Int32.ofNat k)), o11]) (Ff := fun ⟨k, G, o11⟩ => G) (P := fun ⟨k, G, o11⟩ => k ≤ 100 ∧ FX (fun q => (7 ≤ q ∧ q ≤ 9) ∨ (20 ≤ q ∧ q ≤ 35) ∨ q = 40 ∨ q = 43) F G ∧ SHR G 20 (t_m T) (m_days T S k) ∧ m_fst (pCross T S m) k = none) ?_ (0, G3, none) (⟨Nat.zero_le _, hx5, sr6, rfl⟩)
      rintro N12 hN13 ⟨k, G, o11⟩ hi14 ih15
      refine (show Pv _ _ 34 [some (.ref 0), some (.int (Int32.ofNat m)), some (.int (Int32.ofNat k)), o11] [] G Q from ?_)
      obtain ⟨hk, hxG, hA, hb⟩ := hi14
      have hx16 := hT.fx (P := fun q => (7 ≤ q ∧ q ≤ 9) ∨ (20 ≤ q ∧ q ≤ 35) ∨ q = 40 ∨ q = 43) hxG (fun q h1 h2 (c : (7 ≤ q ∧ q ≤ 9) ∨ (20 ≤ q ∧ q ≤ 35) ∨ q = 40 ∨ q = 43) => by omega)
      have hx17 := hS.fx (P := fun q => (7 ≤ q ∧ q ≤ 9) ∨ (20 ≤ q ∧ q ≤ 35) ∨ q = 40 ∨ q = 43) hxG (fun q h1 h2 (c : (7 ≤ q ∧ q ≤ 9) ∨ (20 ≤ q ∧ q ≤ 35) ∨ q = 40 ∨ q = 43) => by omega)
      have hx18 := hG.fx (P := fun q => (7 ≤ q ∧ q ≤ 9) ∨ (20 ≤ q ∧ q ≤ 35) ∨ q = 40 ∨ q = 43) hxG
      have hx19 : G.2.1 0 13 = .ref t := by rw [hxG.2.2.1]; exact ht
      have bD := hA.db
      refine Pv.iloadS rfl rfl ?_
      refine Pv.lit rfl ?_
      refine Pv.icmp rfl (fun c20 => ?_) (fun c20 => ?_)
      · skip
        replace c20 := (i_le (a := 100) (b := k) (by omega) (by omega)).mp (of_decide_eq_true c20)
        refine Pv.lit rfl ?_
        exact Pv.ret rfl (by rw [hQ]; exact ⟨by unfold a_crosses; rw [hm]; dsimp only; rw [if_pos al, show 100 = k by omega, hb]; rfl, hxG⟩)
      · skip
        replace c20 := mt (i_le (a := 100) (b := k) (by omega) (by omega)).mpr (of_decide_eq_false c20)
        refine Pv.aload rfl rfl ?_
        refine Pv.getR (v := .ref 20) rfl rfl (GW.at (a := 0) (k := 5) (b := 20) hx18 (by decide)) ?_
        refine Pv.getI (z := Int32.ofNat (h_d (m_days T S k))) rfl rfl (hA.d) ?_
        refine Pv.lit rfl ?_
        refine Pv.icmp rfl (fun c21 => ?_) (fun c21 => ?_)
        · skip
          replace c21 := (i_le (a := 400) (b := h_d (m_days T S k)) (by omega) (by omega)).mp (of_decide_eq_true c21)
          refine Pv.lit rfl ?_
          exact Pv.ret rfl (by rw [hQ]; exact ⟨by unfold a_crosses; rw [hm]; dsimp only; rw [if_pos al, m_fst_z hb (by omega) (fun i hi => by unfold pCross; rw [decide_eq_false (by rw [m_days_400 (by omega) hi]; omega)]; rfl)]; rfl, hxG⟩)
        · skip
          replace c21 := mt (i_le (a := 400) (b := h_d (m_days T S k)) (by omega) (by omega)).mpr (of_decide_eq_false c21)
          refine Pv.aload rfl rfl ?_
          refine Pv.getR (v := .ref 20) rfl rfl (GW.at (a := 0) (k := 5) (b := 20) hx18 (by decide)) ?_
          refine Pv.getI (z := Int32.ofNat (h_d (m_days T S k))) rfl rfl (hA.d) ?_
          refine Pv.istore (lo' := [some (.ref 0), some (.int (Int32.ofNat m)), some (.int (Int32.ofNat k)), some (.int (Int32.ofNat (h_d (m_days T S k))))]) rfl rfl ?_
          refine Pv.aload rfl rfl ?_
          refine Pv.getR (v := .ref 7) rfl rfl (GW.at (a := 0) (k := 2) (b := 7) hx18 (by decide)) ?_
          refine Pv.aload rfl rfl ?_
          refine Pv.getR (v := .ref t) rfl rfl (hx19) ?_
          refine Pv.aload rfl rfl ?_
          refine Pv.getR (v := .ref 20) rfl rfl (GW.at (a := 0) (k := 5) (b := 20) hx18 (by decide)) ?_
          refine Pv.lit rfl ?_
          refine Pv.callV (as := [.ref 7, .ref t, .ref 20, .int 1]) (rest := []) rfl rfl rfl (f_passDays (n := 1) hx16 hA hx18 (by omega) (by omega) (by omega) (by omega)) ?_
          rintro _ G22 ⟨rfl, x23, sr25, pl26⟩
          have hx24 := FX.tr (P := fun q => (7 ≤ q ∧ q ≤ 9) ∨ (20 ≤ q ∧ q ≤ 35) ∨ q = 40 ∨ q = 43) hxG (x23.wd (fun q (c : (20 ≤ q ∧ q ≤ 20 + 7) ∨ (7 ≤ q ∧ q ≤ 9)) => (show (7 ≤ q ∧ q ≤ 9) ∨ (20 ≤ q ∧ q ≤ 35) ∨ q = 40 ∨ q = 43 by omega)))
          have hx27 := hx16.fx (P := fun q => (20 ≤ q ∧ q ≤ 20 + 7) ∨ (7 ≤ q ∧ q ≤ 9)) x23 (fun q h1 h2 (c : (20 ≤ q ∧ q ≤ 20 + 7) ∨ (7 ≤ q ∧ q ≤ 9)) => by omega)
          have hx28 := hx17.fx (P := fun q => (20 ≤ q ∧ q ≤ 20 + 7) ∨ (7 ≤ q ∧ q ≤ 9)) x23 (fun q h1 h2 (c : (20 ≤ q ∧ q ≤ 20 + 7) ∨ (7 ≤ q ∧ q ≤ 9)) => by omega)
          have hx29 := hx18.fx (P := fun q => (20 ≤ q ∧ q ≤ 20 + 7) ∨ (7 ≤ q ∧ q ≤ 9)) x23
          have hr30 : G22.2.1 0 13 = .ref t := by rw [x23.2.2.1]; exact hx19
          refine (show Pv _ _ 77 [some (.ref 0), some (.int (Int32.ofNat m)), some (.int (Int32.ofNat k)), some (.int (Int32.ofNat (h_d (m_days T S k))))] [.int (Int32.ofNat (h_d (m_days T (m_days T S k) 1)) - Int32.ofNat (h_d (m_days T S k)))] G22 Q from ?_)
          have hP := pl26 0 rfl (by show h_d (m_days T S k) < 400; omega)
          have hq31 : SHR G22 20 (t_m T) (m_day T (m_days T S k)) := by have q := sr25; rw [show m_days T (m_days T S k) 1 = m_day T (m_days T S k) from if_pos (by show h_d (m_days T S k) < 400; omega)] at q; exact q
          refine Pv.pop rfl ?_
          refine Pv.aload rfl rfl ?_
          refine Pv.getR (v := .ref 7) rfl rfl (GW.at (a := 0) (k := 2) (b := 7) hx29 (by decide)) ?_
          refine Pv.getI (z := m_board T (m_days T S k)) rfl rfl (hP.1) ?_
          refine Pv.lit rfl ?_
          refine Pv.iload rfl rfl ?_
          refine Pv.bin (z := 1 <<< ((Int32.ofNat m) &&& 31)) rfl (rfl) ?_
          refine Pv.bin (z := (m_board T (m_days T S k)) &&& (1 <<< ((Int32.ofNat m) &&& 31))) rfl (rfl) ?_
          refine Pv.if0 rfl (fun c32 => ?_) (fun c32 => ?_)
          · skip
            replace c32 := of_decide_eq_true c32
            refine Pv.iinc (y := Int32.ofNat (k + 1)) (lo' := [some (.ref 0), some (.int (Int32.ofNat m)), some (.int (Int32.ofNat (k + 1))), some (.int (Int32.ofNat (h_d (m_days T S k))))]) rfl rfl (i_add k 1) rfl ?_
            refine Pv.goto rfl ?_
            exact ih15 (k + 1, G22, (some (.int (Int32.ofNat (h_d (m_days T S k)))))) (⟨by omega, hx24, by rw [m_days_s (by omega)]; exact hq31, m_fst_n hb (by unfold pCross m_bit; simp [c32])⟩)
          · skip
            replace c32 := of_decide_eq_false c32
            refine Pv.iload rfl rfl ?_
            exact Pv.ret rfl (by rw [hQ]; exact ⟨by unfold a_crosses; rw [hm]; dsimp only; rw [if_pos al, m_fst_e hb (by unfold pCross m_bit; simp [c32]; omega) (by omega)]; rfl, hx24⟩)
    · skip
      replace c2 : decide (b2i (m_alive S m) = 0) = true := by simpa using c2
      replace c2 := of_decide_eq_true c2
      replace c2 := b2z.mp c2
      refine Pv.lit rfl ?_
      exact Pv.ret rfl (by rw [hQ]; exact ⟨by unfold a_crosses; rw [hm]; dsimp only; rw [if_neg (by rw [c2]; decide)], FX.rf⟩)
set_option maxRecDepth 100000 in
set_option maxHeartbeats 4000000 in
theorem o_comes {F : FW} {t : Nat} {T : St} {S : Sh} (hG : GW F) (ht : F.2.1 0 13 = .ref t) (hT : TR F t T) (hS : SHR F 12 (t_m T) S) (j0 : t = 45 ∨ t = 53) (x y : Int32) : Pm Z_X10_comes [.ref 0, .int x, .int y] F (fun r F' => r = some (.int (a_comes T S x y)) ∧ CDR F F') := by
  refine Pm.of fun N => ?_
  obtain ⟨Q, hQ⟩ : ∃ Q : Option Value → FW → Prop, Q = (fun r F' => r = some (.int (a_comes T S x y)) ∧ CDR F F') := ⟨_, rfl⟩
  rw [← hQ]
  have b3 := hT.mb
  have b4 := hT.nb
  have b5 := hT.gb
  have b6 := m_from_lt S
  have b7 := hS.db
  refine (show Pv (ab_T (L_X10_comes Z_X10_isSlot Z_X6_copyFrom Z_X6_ferryShore Z_X1_passDays)) N 0 [some (.ref 0), some (.int x), some (.int y), none, none, none] [] F Q from ?_)
  refine Pv.aload rfl rfl ?_
  refine Pv.iload rfl rfl ?_
  refine Pv.iload rfl rfl ?_
  refine Pv.callVI (as := [.ref 0, .int x, .int y]) (rest := []) (z := b2i ((nd (t_g T) x).isSome && (nd 2 y).isSome)) rfl rfl rfl (o_isSlot hG ht hT hS j0 x y) ?_
  refine Pv.if0 rfl (fun c1 => ?_) (fun c1 => ?_)
  · skip
    replace c1 : decide (b2i ((nd (t_g T) x).isSome && (nd 2 y).isSome) = 0) = false := by simpa using c1
    replace c1 := of_decide_eq_false c1
    replace c1 := b2n.mp c1
    obtain ⟨g, s, hg, hs, hgl, hsl, rfl, rfl⟩ := gs_t c1
    refine Pv.aload rfl rfl ?_
    refine Pv.getR (v := .ref 20) rfl rfl (GW.at (a := 0) (k := 5) (b := 20) hG (by decide)) ?_
    refine Pv.aload rfl rfl ?_
    refine Pv.getR (v := .ref 12) rfl rfl (GW.at (a := 0) (k := 4) (b := 12) hG (by decide)) ?_
    refine Pv.callV (as := [.ref 20, .ref 12]) (rest := []) rfl rfl rfl (f_shCopy (GW.o20 hG) hS b3 (by omega)) ?_
    rintro _ G2 ⟨rfl, x3, sr5⟩
    have hx4 := FX.tr (P := fun q => (7 ≤ q ∧ q ≤ 9) ∨ (20 ≤ q ∧ q ≤ 35) ∨ q = 40 ∨ q = 43) FX.rf (x3.wd (fun q (c : 20 ≤ q ∧ q ≤ 20 + 7) => (show (7 ≤ q ∧ q ≤ 9) ∨ (20 ≤ q ∧ q ≤ 35) ∨ q = 40 ∨ q = 43 by omega)))
    have hx6 := hT.fx (P := fun q => 20 ≤ q ∧ q ≤ 20 + 7) x3 (fun q h1 h2 (c : 20 ≤ q ∧ q ≤ 20 + 7) => by omega)
    have hx7 := hS.fx (P := fun q => 20 ≤ q ∧ q ≤ 20 + 7) x3 (fun q h1 h2 (c : 20 ≤ q ∧ q ≤ 20 + 7) => by omega)
    have hx8 := hG.fx (P := fun q => 20 ≤ q ∧ q ≤ 20 + 7) x3
    have hr9 : G2.2.1 0 13 = .ref t := by rw [x3.2.2.1]; exact ht
    refine (show Pv _ _ 22 [some (.ref 0), some (.int (Int32.ofNat g)), some (.int (Int32.ofNat s)), none, none, none] [] G2 Q from ?_)
    refine Pv.lit rfl ?_
    refine Pv.istore (lo' := [some (.ref 0), some (.int (Int32.ofNat g)), some (.int (Int32.ofNat s)), some (.int 0), none, none]) rfl rfl ?_
    refine Pv.lp (ι := Nat × FW × (Option Value) × (Option Value)) (lof := fun ⟨k, G, o10, o11⟩ => [some (.ref 0), some (.int (Int32.ofNat g)), some (.int (Int32.ofNat s)), some (.int (Int32.ofNat k)), o10, o11]) (Ff := fun ⟨k, G, o10, o11⟩ => G) (P := fun ⟨k, G, o10, o11⟩ => k ≤ 100 ∧ FX (fun q => (7 ≤ q ∧ q ≤ 9) ∨ (20 ≤ q ∧ q ≤ 35) ∨ q = 40 ∨ q = 43) F G ∧ SHR G 20 (t_m T) (m_days T S k) ∧ m_fst (pComes T S g s) k = none) ?_ (0, G2, none, none) (⟨Nat.zero_le _, hx4, sr5, rfl⟩)
    rintro N12 hN13 ⟨k, G, o10, o11⟩ hi14 ih15
    refine (show Pv _ _ 24 [some (.ref 0), some (.int (Int32.ofNat g)), some (.int (Int32.ofNat s)), some (.int (Int32.ofNat k)), o10, o11] [] G Q from ?_)
    obtain ⟨hk, hxG, hA, hb⟩ := hi14
    have hx16 := hT.fx (P := fun q => (7 ≤ q ∧ q ≤ 9) ∨ (20 ≤ q ∧ q ≤ 35) ∨ q = 40 ∨ q = 43) hxG (fun q h1 h2 (c : (7 ≤ q ∧ q ≤ 9) ∨ (20 ≤ q ∧ q ≤ 35) ∨ q = 40 ∨ q = 43) => by omega)
    have hx17 := hS.fx (P := fun q => (7 ≤ q ∧ q ≤ 9) ∨ (20 ≤ q ∧ q ≤ 35) ∨ q = 40 ∨ q = 43) hxG (fun q h1 h2 (c : (7 ≤ q ∧ q ≤ 9) ∨ (20 ≤ q ∧ q ≤ 35) ∨ q = 40 ∨ q = 43) => by omega)
    have hx18 := hG.fx (P := fun q => (7 ≤ q ∧ q ≤ 9) ∨ (20 ≤ q ∧ q ≤ 35) ∨ q = 40 ∨ q = 43) hxG
    have hx19 : G.2.1 0 13 = .ref t := by rw [hxG.2.2.1]; exact ht
    have bD := hA.db
    refine Pv.iloadS rfl rfl ?_
    refine Pv.lit rfl ?_
    refine Pv.icmp rfl (fun c20 => ?_) (fun c20 => ?_)
    · skip
      replace c20 := (i_le (a := 100) (b := k) (by omega) (by omega)).mp (of_decide_eq_true c20)
      refine Pv.lit rfl ?_
      exact Pv.ret rfl (by rw [hQ]; exact ⟨by unfold a_comes; rw [aGS_t hg hs, show 100 = k by omega, hb]; rfl, hxG⟩)
    · skip
      replace c20 := mt (i_le (a := 100) (b := k) (by omega) (by omega)).mpr (of_decide_eq_false c20)
      have b8 := m_from_lt (m_days T S k)
      refine Pv.aload rfl rfl ?_
      refine Pv.getR (v := .ref 20) rfl rfl (GW.at (a := 0) (k := 5) (b := 20) hx18 (by decide)) ?_
      refine Pv.getI (z := Int32.ofNat (h_d (m_days T S k))) rfl rfl (hA.d) ?_
      refine Pv.lit rfl ?_
      refine Pv.icmp rfl (fun c21 => ?_) (fun c21 => ?_)
      · skip
        replace c21 := (i_le (a := 400) (b := h_d (m_days T S k)) (by omega) (by omega)).mp (of_decide_eq_true c21)
        refine Pv.lit rfl ?_
        exact Pv.ret rfl (by rw [hQ]; exact ⟨by unfold a_comes; rw [aGS_t hg hs, m_fst_z hb (by omega) (fun i hi => by unfold pComes; rw [decide_eq_false (by rw [m_days_400 (by omega) hi]; omega)]; rfl)]; rfl, hxG⟩)
      · skip
        replace c21 := mt (i_le (a := 400) (b := h_d (m_days T S k)) (by omega) (by omega)).mpr (of_decide_eq_false c21)
        refine Pv.aload rfl rfl ?_
        refine Pv.getR (v := .ref 20) rfl rfl (GW.at (a := 0) (k := 5) (b := 20) hx18 (by decide)) ?_
        refine Pv.getI (z := Int32.ofNat (h_d (m_days T S k))) rfl rfl (hA.d) ?_
        refine Pv.istore (lo' := [some (.ref 0), some (.int (Int32.ofNat g)), some (.int (Int32.ofNat s)), some (.int (Int32.ofNat k)), some (.int (Int32.ofNat (h_d (m_days T S k)))), o11]) rfl rfl ?_
        refine Pv.aload rfl rfl ?_
        refine Pv.getR (v := .ref 20) rfl rfl (GW.at (a := 0) (k := 5) (b := 20) hx18 (by decide)) ?_
        refine Pv.callVI (as := [.ref 20]) (rest := []) (z := Int32.ofNat (m_from (m_days T S k))) rfl rfl rfl (f_ferryShore hA) ?_
        refine Pv.iload rfl rfl ?_
        refine Pv.icmp rfl (fun c22 => ?_) (fun c22 => ?_)
        · skip
          replace c22 := (i_eq (a := m_from (m_days T S k)) (b := s) (by omega) (by omega)).mp (of_decide_eq_true c22)
          refine Pv.lit rfl ?_
          refine Pv.istore (lo' := [some (.ref 0), some (.int (Int32.ofNat g)), some (.int (Int32.ofNat s)), some (.int (Int32.ofNat k)), some (.int (Int32.ofNat (h_d (m_days T S k)))), some (.int 0)]) rfl rfl ?_
          refine Pv.aload rfl rfl ?_
          refine Pv.getR (v := .ref 7) rfl rfl (GW.at (a := 0) (k := 2) (b := 7) hx18 (by decide)) ?_
          refine Pv.aload rfl rfl ?_
          refine Pv.getR (v := .ref t) rfl rfl (hx19) ?_
          refine Pv.aload rfl rfl ?_
          refine Pv.getR (v := .ref 20) rfl rfl (GW.at (a := 0) (k := 5) (b := 20) hx18 (by decide)) ?_
          refine Pv.lit rfl ?_
          refine Pv.callV (as := [.ref 7, .ref t, .ref 20, .int 1]) (rest := []) rfl rfl rfl (f_passDays (n := 1) hx16 hA hx18 (by omega) (by omega) (by omega) (by omega)) ?_
          rintro _ G23 ⟨rfl, x24, sr26, pl27⟩
          have hx25 := FX.tr (P := fun q => (7 ≤ q ∧ q ≤ 9) ∨ (20 ≤ q ∧ q ≤ 35) ∨ q = 40 ∨ q = 43) hxG (x24.wd (fun q (c : (20 ≤ q ∧ q ≤ 20 + 7) ∨ (7 ≤ q ∧ q ≤ 9)) => (show (7 ≤ q ∧ q ≤ 9) ∨ (20 ≤ q ∧ q ≤ 35) ∨ q = 40 ∨ q = 43 by omega)))
          have hx28 := hx16.fx (P := fun q => (20 ≤ q ∧ q ≤ 20 + 7) ∨ (7 ≤ q ∧ q ≤ 9)) x24 (fun q h1 h2 (c : (20 ≤ q ∧ q ≤ 20 + 7) ∨ (7 ≤ q ∧ q ≤ 9)) => by omega)
          have hx29 := hx17.fx (P := fun q => (20 ≤ q ∧ q ≤ 20 + 7) ∨ (7 ≤ q ∧ q ≤ 9)) x24 (fun q h1 h2 (c : (20 ≤ q ∧ q ≤ 20 + 7) ∨ (7 ≤ q ∧ q ≤ 9)) => by omega)
          have hx30 := hx18.fx (P := fun q => (20 ≤ q ∧ q ≤ 20 + 7) ∨ (7 ≤ q ∧ q ≤ 9)) x24
          have hr31 : G23.2.1 0 13 = .ref t := by rw [x24.2.2.1]; exact hx19
          refine (show Pv _ _ 86 [some (.ref 0), some (.int (Int32.ofNat g)), some (.int (Int32.ofNat s)), some (.int (Int32.ofNat k)), some (.int (Int32.ofNat (h_d (m_days T S k)))), some (.int 0)] [.int (Int32.ofNat (h_d (m_days T (m_days T S k) 1)) - Int32.ofNat (h_d (m_days T S k)))] G23 Q from ?_)
          have hP := pl27 0 rfl (by show h_d (m_days T S k) < 400; omega)
          have hq32 : SHR G23 20 (t_m T) (m_day T (m_days T S k)) := by have q := sr26; rw [show m_days T (m_days T S k) 1 = m_day T (m_days T S k) from if_pos (by show h_d (m_days T S k) < 400; omega)] at q; exact q
          refine Pv.pop rfl ?_
          refine Pv.iload rfl rfl ?_
          refine Pv.if0 rfl (fun c33 => ?_) (fun c33 => ?_)
          · skip
            replace c33 := (i_eq (a := 0) (b := 0) (by omega) (by omega)).mp (of_decide_eq_true c33)
            refine Pv.iinc (y := Int32.ofNat (k + 1)) (lo' := [some (.ref 0), some (.int (Int32.ofNat g)), some (.int (Int32.ofNat s)), some (.int (Int32.ofNat (k + 1))), some (.int (Int32.ofNat (h_d (m_days T S k)))), some (.int 0)]) rfl rfl (i_add k 1) rfl ?_
            refine Pv.goto rfl ?_
            exact ih15 (k + 1, G23, (some (.int (Int32.ofNat (h_d (m_days T S k))))), (some (.int 0))) (⟨by omega, hx25, by rw [m_days_s (by omega)]; exact hq32, m_fst_n hb (by unfold pComes; simp [c22])⟩)
          · skip
            replace c33 := mt (i_eq (a := 0) (b := 0) (by omega) (by omega)).mpr (of_decide_eq_false c33)
            omega
        · skip
          replace c22 := mt (i_eq (a := m_from (m_days T S k)) (b := s) (by omega) (by omega)).mpr (of_decide_eq_false c22)
          refine Pv.lit rfl ?_
          refine Pv.goto rfl ?_
          refine Pv.istore (lo' := [some (.ref 0), some (.int (Int32.ofNat g)), some (.int (Int32.ofNat s)), some (.int (Int32.ofNat k)), some (.int (Int32.ofNat (h_d (m_days T S k)))), some (.int 1)]) rfl rfl ?_
          refine Pv.aload rfl rfl ?_
          refine Pv.getR (v := .ref 7) rfl rfl (GW.at (a := 0) (k := 2) (b := 7) hx18 (by decide)) ?_
          refine Pv.aload rfl rfl ?_
          refine Pv.getR (v := .ref t) rfl rfl (hx19) ?_
          refine Pv.aload rfl rfl ?_
          refine Pv.getR (v := .ref 20) rfl rfl (GW.at (a := 0) (k := 5) (b := 20) hx18 (by decide)) ?_
          refine Pv.lit rfl ?_
          refine Pv.callV (as := [.ref 7, .ref t, .ref 20, .int 1]) (rest := []) rfl rfl rfl (f_passDays (n := 1) hx16 hA hx18 (by omega) (by omega) (by omega) (by omega)) ?_
          rintro _ G34 ⟨rfl, x35, sr37, pl38⟩
          have hx36 := FX.tr (P := fun q => (7 ≤ q ∧ q ≤ 9) ∨ (20 ≤ q ∧ q ≤ 35) ∨ q = 40 ∨ q = 43) hxG (x35.wd (fun q (c : (20 ≤ q ∧ q ≤ 20 + 7) ∨ (7 ≤ q ∧ q ≤ 9)) => (show (7 ≤ q ∧ q ≤ 9) ∨ (20 ≤ q ∧ q ≤ 35) ∨ q = 40 ∨ q = 43 by omega)))
          have hx39 := hx16.fx (P := fun q => (20 ≤ q ∧ q ≤ 20 + 7) ∨ (7 ≤ q ∧ q ≤ 9)) x35 (fun q h1 h2 (c : (20 ≤ q ∧ q ≤ 20 + 7) ∨ (7 ≤ q ∧ q ≤ 9)) => by omega)
          have hx40 := hx17.fx (P := fun q => (20 ≤ q ∧ q ≤ 20 + 7) ∨ (7 ≤ q ∧ q ≤ 9)) x35 (fun q h1 h2 (c : (20 ≤ q ∧ q ≤ 20 + 7) ∨ (7 ≤ q ∧ q ≤ 9)) => by omega)
          have hx41 := hx18.fx (P := fun q => (20 ≤ q ∧ q ≤ 20 + 7) ∨ (7 ≤ q ∧ q ≤ 9)) x35
          have hr42 : G34.2.1 0 13 = .ref t := by rw [x35.2.2.1]; exact hx19
          refine (show Pv _ _ 86 [some (.ref 0), some (.int (Int32.ofNat g)), some (.int (Int32.ofNat s)), some (.int (Int32.ofNat k)), some (.int (Int32.ofNat (h_d (m_days T S k)))), some (.int 1)] [.int (Int32.ofNat (h_d (m_days T (m_days T S k) 1)) - Int32.ofNat (h_d (m_days T S k)))] G34 Q from ?_)
          have hP := pl38 0 rfl (by show h_d (m_days T S k) < 400; omega)
          have hq43 : SHR G34 20 (t_m T) (m_day T (m_days T S k)) := by have q := sr37; rw [show m_days T (m_days T S k) 1 = m_day T (m_days T S k) from if_pos (by show h_d (m_days T S k) < 400; omega)] at q; exact q
          refine Pv.pop rfl ?_
          refine Pv.iload rfl rfl ?_
          refine Pv.if0 rfl (fun c44 => ?_) (fun c44 => ?_)
          · skip
            replace c44 := (i_eq (a := 1) (b := 0) (by omega) (by omega)).mp (of_decide_eq_true c44)
            omega
          · skip
            replace c44 := mt (i_eq (a := 1) (b := 0) (by omega) (by omega)).mpr (of_decide_eq_false c44)
            refine Pv.aload rfl rfl ?_
            refine Pv.getR (v := .ref 7) rfl rfl (GW.at (a := 0) (k := 2) (b := 7) hx41 (by decide)) ?_
            refine Pv.getR (v := .ref 8) rfl rfl (GW.at (a := 7) (k := 0) (b := 8) hx41 (by decide)) ?_
            refine Pv.iload rfl rfl ?_
            refine Pv.ald (z := m_fr T (m_days T S k) g) rfl (by rw [i_toNat (by omega)]; exact hP.2.2.1 _ (by omega)) ?_
            refine Pv.if0 rfl (fun c45 => ?_) (fun c45 => ?_)
            · skip
              replace c45 := of_decide_eq_true c45
              refine Pv.iinc (y := Int32.ofNat (k + 1)) (lo' := [some (.ref 0), some (.int (Int32.ofNat g)), some (.int (Int32.ofNat s)), some (.int (Int32.ofNat (k + 1))), some (.int (Int32.ofNat (h_d (m_days T S k)))), some (.int 1)]) rfl rfl (i_add k 1) rfl ?_
              refine Pv.goto rfl ?_
              exact ih15 (k + 1, G34, (some (.int (Int32.ofNat (h_d (m_days T S k))))), (some (.int 1))) (⟨by omega, hx36, by rw [m_days_s (by omega)]; exact hq43, m_fst_n hb (by unfold pComes; simp [c22, c45])⟩)
            · skip
              replace c45 := of_decide_eq_false c45
              refine Pv.iload rfl rfl ?_
              exact Pv.ret rfl (by rw [hQ]; exact ⟨by unfold a_comes; rw [aGS_t hg hs, m_fst_e hb (by unfold pComes; simp [c22, c45]; omega) (by omega)]; rfl, hx36⟩)
  · skip
    replace c1 : decide (b2i ((nd (t_g T) x).isSome && (nd 2 y).isSome) = 0) = true := by simpa using c1
    replace c1 := of_decide_eq_true c1
    replace c1 := b2z.mp c1
    refine Pv.lit rfl ?_
    exact Pv.ret rfl (by rw [hQ]; exact ⟨by unfold a_comes; rw [aGS_f c1], FX.rf⟩)
end
-- 63.b55.ot.lean.txt
section
set_option maxRecDepth 100000 in
set_option maxHeartbeats 4000000 in
theorem o_meet {F : FW} {t : Nat} {T : St} {S : Sh} (hG : GW F) (ht : F.2.1 0 13 = .ref t) (hT : TR F t T) (hS : SHR F 12 (t_m T) S) (j0 : t = 45 ∨ t = 53) (x y : Int32) : Pm Z_X10_meet [.ref 0, .int x, .int y] F (fun r F' => r = some (.int (a_meet T S x y)) ∧ CDR F F') := by
  refine Pm.of fun N => ?_
  obtain ⟨Q, hQ⟩ : ∃ Q : Option Value → FW → Prop, Q = (fun r F' => r = some (.int (a_meet T S x y)) ∧ CDR F F') := ⟨_, rfl⟩
  rw [← hQ]
  have b3 := hT.mb
  have b4 := hT.nb
  have b5 := hT.gb
  have b6 := m_from_lt S
  have b7 := hS.db
  refine (show Pv (ab_T (L_X10_meet Z_X10_areLivingTwo Z_X6_copyFrom Z_X1_passDays)) N 0 [some (.ref 0), some (.int x), some (.int y), none] [] F Q from ?_)
  refine Pv.aload rfl rfl ?_
  refine Pv.iload rfl rfl ?_
  refine Pv.iload rfl rfl ?_
  refine Pv.callVI (as := [.ref 0, .int x, .int y]) (rest := []) (z := b2i (liv2 T S x y).isSome) rfl rfl rfl (o_areLivingTwo hG ht hT hS j0 x y) ?_
  refine Pv.if0 rfl (fun c1 => ?_) (fun c1 => ?_)
  · skip
    replace c1 : decide (b2i (liv2 T S x y).isSome = 0) = false := by simpa using c1
    replace c1 := of_decide_eq_false c1
    replace c1 := b2n.mp c1
    obtain ⟨⟨m, o⟩, hl⟩ := Option.isSome_iff_exists.mp c1
    obtain ⟨hm, ho, -, -, -, rfl, rfl⟩ := liv2_s hl
    refine Pv.aload rfl rfl ?_
    refine Pv.getR (v := .ref 20) rfl rfl (GW.at (a := 0) (k := 5) (b := 20) hG (by decide)) ?_
    refine Pv.aload rfl rfl ?_
    refine Pv.getR (v := .ref 12) rfl rfl (GW.at (a := 0) (k := 4) (b := 12) hG (by decide)) ?_
    refine Pv.callV (as := [.ref 20, .ref 12]) (rest := []) rfl rfl rfl (f_shCopy (GW.o20 hG) hS b3 (by omega)) ?_
    rintro _ G2 ⟨rfl, x3, sr5⟩
    have hx4 := FX.tr (P := fun q => (7 ≤ q ∧ q ≤ 9) ∨ (20 ≤ q ∧ q ≤ 35) ∨ q = 40 ∨ q = 43) FX.rf (x3.wd (fun q (c : 20 ≤ q ∧ q ≤ 20 + 7) => (show (7 ≤ q ∧ q ≤ 9) ∨ (20 ≤ q ∧ q ≤ 35) ∨ q = 40 ∨ q = 43 by omega)))
    have hx6 := hT.fx (P := fun q => 20 ≤ q ∧ q ≤ 20 + 7) x3 (fun q h1 h2 (c : 20 ≤ q ∧ q ≤ 20 + 7) => by omega)
    have hx7 := hS.fx (P := fun q => 20 ≤ q ∧ q ≤ 20 + 7) x3 (fun q h1 h2 (c : 20 ≤ q ∧ q ≤ 20 + 7) => by omega)
    have hx8 := hG.fx (P := fun q => 20 ≤ q ∧ q ≤ 20 + 7) x3
    have hr9 : G2.2.1 0 13 = .ref t := by rw [x3.2.2.1]; exact ht
    refine (show Pv _ _ 22 [some (.ref 0), some (.int (Int32.ofNat m)), some (.int (Int32.ofNat o)), none] [] G2 Q from ?_)
    refine Pv.lit rfl ?_
    refine Pv.istore (lo' := [some (.ref 0), some (.int (Int32.ofNat m)), some (.int (Int32.ofNat o)), some (.int 0)]) rfl rfl ?_
    refine Pv.lp (ι := Nat × FW) (lof := fun ⟨k, G⟩ => [some (.ref 0), some (.int (Int32.ofNat m)), some (.int (Int32.ofNat o)), some (.int (Int32.ofNat k))]) (Ff := fun ⟨k, G⟩ => G) (P := fun ⟨k, G⟩ => k ≤ 101 ∧ FX (fun q => (7 ≤ q ∧ q ≤ 9) ∨ (20 ≤ q ∧ q ≤ 35) ∨ q = 40 ∨ q = 43) F G ∧ SHR G 20 (t_m T) (m_days T S k) ∧ m_fst (pMeet T S m o) k = none) ?_ (0, G2) (⟨Nat.zero_le _, hx4, sr5, rfl⟩)
    rintro N10 hN11 ⟨k, G⟩ hi12 ih13
    refine (show Pv _ _ 24 [some (.ref 0), some (.int (Int32.ofNat m)), some (.int (Int32.ofNat o)), some (.int (Int32.ofNat k))] [] G Q from ?_)
    obtain ⟨hk, hxG, hA, hb⟩ := hi12
    have hx14 := hT.fx (P := fun q => (7 ≤ q ∧ q ≤ 9) ∨ (20 ≤ q ∧ q ≤ 35) ∨ q = 40 ∨ q = 43) hxG (fun q h1 h2 (c : (7 ≤ q ∧ q ≤ 9) ∨ (20 ≤ q ∧ q ≤ 35) ∨ q = 40 ∨ q = 43) => by omega)
    have hx15 := hS.fx (P := fun q => (7 ≤ q ∧ q ≤ 9) ∨ (20 ≤ q ∧ q ≤ 35) ∨ q = 40 ∨ q = 43) hxG (fun q h1 h2 (c : (7 ≤ q ∧ q ≤ 9) ∨ (20 ≤ q ∧ q ≤ 35) ∨ q = 40 ∨ q = 43) => by omega)
    have hx16 := hG.fx (P := fun q => (7 ≤ q ∧ q ≤ 9) ∨ (20 ≤ q ∧ q ≤ 35) ∨ q = 40 ∨ q = 43) hxG
    have hx17 : G.2.1 0 13 = .ref t := by rw [hxG.2.2.1]; exact ht
    have bD := hA.db
    refine Pv.iloadS rfl rfl ?_
    refine Pv.lit rfl ?_
    refine Pv.icmp rfl (fun c18 => ?_) (fun c18 => ?_)
    · skip
      replace c18 := (i_lt (a := 100) (b := k) (by omega) (by omega)).mp (of_decide_eq_true c18)
      refine Pv.lit rfl ?_
      exact Pv.ret rfl (by rw [hQ]; exact ⟨by unfold a_meet; rw [hl]; dsimp only; rw [show 101 = k by omega, hb], hxG⟩)
    · skip
      replace c18 := mt (i_lt (a := 100) (b := k) (by omega) (by omega)).mpr (of_decide_eq_false c18)
      refine Pv.aload rfl rfl ?_
      refine Pv.getR (v := .ref 20) rfl rfl (GW.at (a := 0) (k := 5) (b := 20) hx16 (by decide)) ?_
      refine Pv.getR (v := .ref 25) rfl rfl (hA.o 4 (by decide)) ?_
      refine Pv.iload rfl rfl ?_
      refine Pv.ald (z := h_a (m_days T S k) m) rfl (by rw [i_toNat (by omega)]; exact hA.a _ (by omega)) ?_
      refine Pv.aload rfl rfl ?_
      refine Pv.getR (v := .ref 20) rfl rfl (GW.at (a := 0) (k := 5) (b := 20) hx16 (by decide)) ?_
      refine Pv.getR (v := .ref 25) rfl rfl (hA.o 4 (by decide)) ?_
      refine Pv.iload rfl rfl ?_
      refine Pv.ald (z := h_a (m_days T S k) o) rfl (by rw [i_toNat (by omega)]; exact hA.a _ (by omega)) ?_
      refine Pv.icmp rfl (fun c19 => ?_) (fun c19 => ?_)
      · skip
        replace c19 : decide (h_a (m_days T S k) m = h_a (m_days T S k) o) = false := by simpa using c19
        replace c19 := of_decide_eq_false c19
        refine Pv.aload rfl rfl ?_
        refine Pv.getR (v := .ref 20) rfl rfl (GW.at (a := 0) (k := 5) (b := 20) hx16 (by decide)) ?_
        refine Pv.getI (z := Int32.ofNat (h_d (m_days T S k))) rfl rfl (hA.d) ?_
        refine Pv.lit rfl ?_
        refine Pv.icmp rfl (fun c20 => ?_) (fun c20 => ?_)
        · skip
          replace c20 := (i_lt (a := h_d (m_days T S k)) (b := 400) (by omega) (by omega)).mp (of_decide_eq_true c20)
          refine Pv.aload rfl rfl ?_
          refine Pv.getR (v := .ref 7) rfl rfl (GW.at (a := 0) (k := 2) (b := 7) hx16 (by decide)) ?_
          refine Pv.aload rfl rfl ?_
          refine Pv.getR (v := .ref t) rfl rfl (hx17) ?_
          refine Pv.aload rfl rfl ?_
          refine Pv.getR (v := .ref 20) rfl rfl (GW.at (a := 0) (k := 5) (b := 20) hx16 (by decide)) ?_
          refine Pv.lit rfl ?_
          refine Pv.callV (as := [.ref 7, .ref t, .ref 20, .int 1]) (rest := []) rfl rfl rfl (f_passDays (n := 1) hx14 hA hx16 (by omega) (by omega) (by omega) (by omega)) ?_
          rintro _ G21 ⟨rfl, x22, sr24, pl25⟩
          have hx23 := FX.tr (P := fun q => (7 ≤ q ∧ q ≤ 9) ∨ (20 ≤ q ∧ q ≤ 35) ∨ q = 40 ∨ q = 43) hxG (x22.wd (fun q (c : (20 ≤ q ∧ q ≤ 20 + 7) ∨ (7 ≤ q ∧ q ≤ 9)) => (show (7 ≤ q ∧ q ≤ 9) ∨ (20 ≤ q ∧ q ≤ 35) ∨ q = 40 ∨ q = 43 by omega)))
          have hx26 := hx14.fx (P := fun q => (20 ≤ q ∧ q ≤ 20 + 7) ∨ (7 ≤ q ∧ q ≤ 9)) x22 (fun q h1 h2 (c : (20 ≤ q ∧ q ≤ 20 + 7) ∨ (7 ≤ q ∧ q ≤ 9)) => by omega)
          have hx27 := hx15.fx (P := fun q => (20 ≤ q ∧ q ≤ 20 + 7) ∨ (7 ≤ q ∧ q ≤ 9)) x22 (fun q h1 h2 (c : (20 ≤ q ∧ q ≤ 20 + 7) ∨ (7 ≤ q ∧ q ≤ 9)) => by omega)
          have hx28 := hx16.fx (P := fun q => (20 ≤ q ∧ q ≤ 20 + 7) ∨ (7 ≤ q ∧ q ≤ 9)) x22
          have hr29 : G21.2.1 0 13 = .ref t := by rw [x22.2.2.1]; exact hx17
          refine (show Pv _ _ 84 [some (.ref 0), some (.int (Int32.ofNat m)), some (.int (Int32.ofNat o)), some (.int (Int32.ofNat k))] [.int (Int32.ofNat (h_d (m_days T (m_days T S k) 1)) - Int32.ofNat (h_d (m_days T S k)))] G21 Q from ?_)
          have hP := pl25 0 rfl (by show h_d (m_days T S k) < 400; omega)
          have hq30 : SHR G21 20 (t_m T) (m_day T (m_days T S k)) := by have q := sr24; rw [show m_days T (m_days T S k) 1 = m_day T (m_days T S k) from if_pos (by show h_d (m_days T S k) < 400; omega)] at q; exact q
          refine Pv.pop rfl ?_
          refine Pv.iinc (y := Int32.ofNat (k + 1)) (lo' := [some (.ref 0), some (.int (Int32.ofNat m)), some (.int (Int32.ofNat o)), some (.int (Int32.ofNat (k + 1)))]) rfl rfl (i_add k 1) rfl ?_
          refine Pv.goto rfl ?_
          exact ih13 (k + 1, G21) (⟨by omega, hx23, by rw [m_days_s (by omega)]; exact hq30, m_fst_n hb (decide_eq_false c19)⟩)
        · skip
          replace c20 := mt (i_lt (a := h_d (m_days T S k)) (b := 400) (by omega) (by omega)).mpr (of_decide_eq_false c20)
          refine Pv.lit rfl ?_
          exact Pv.ret rfl (by rw [hQ]; exact ⟨by unfold a_meet; rw [hl]; dsimp only; rw [m_fst_z hb (by omega) (fun i hi => by unfold pMeet; rw [m_days_e (T := T) (S := S) hi (by omega)]; exact decide_eq_false c19)], hxG⟩)
      · skip
        replace c19 : decide (h_a (m_days T S k) m = h_a (m_days T S k) o) = true := by simpa using c19
        replace c19 := of_decide_eq_true c19
        refine Pv.iload rfl rfl ?_
        exact Pv.ret rfl (by rw [hQ]; exact ⟨by unfold a_meet; rw [hl]; dsimp only; rw [m_fst_e hb (decide_eq_true c19) (by omega)], hxG⟩)
  · skip
    replace c1 : decide (b2i (liv2 T S x y).isSome = 0) = true := by simpa using c1
    replace c1 := of_decide_eq_true c1
    replace c1 := b2z.mp c1
    refine Pv.lit rfl ?_
    exact Pv.ret rfl (by rw [hQ]; exact ⟨by unfold a_meet; rw [liv2_n c1], FX.rf⟩)
set_option maxRecDepth 100000 in
set_option maxHeartbeats 4000000 in
theorem f_valueAt {F : FW} {k : Nat} (hG : GW F) (hk : k < 940) : Pm Z_X8_valueAt [.ref 1, .int (Int32.ofNat k)] F (fun r F' => r = some (.int (F.1 2 k &&& 255)) ∧ F' = F) := by
  refine Pm.of fun N => ?_
  obtain ⟨Q, hQ⟩ : ∃ Q : Option Value → FW → Prop, Q = (fun r F' => r = some (.int (F.1 2 k &&& 255)) ∧ F' = F) := ⟨_, rfl⟩
  rw [← hQ]
  refine (show Pv (ab_T L_X8_valueAt) N 0 [some (.ref 1), some (.int (Int32.ofNat k))] [] F Q from ?_)
  refine Pv.iload rfl rfl ?_
  refine Pv.if0 rfl (fun c1 => ?_) (fun c1 => ?_)
  · skip
    replace c1 := (i_lt (a := k) (b := 0) (by omega) (by omega)).mp (of_decide_eq_true c1)
    omega
  · skip
    replace c1 := mt (i_lt (a := k) (b := 0) (by omega) (by omega)).mpr (of_decide_eq_false c1)
    refine Pv.iload rfl rfl ?_
    refine Pv.lit rfl ?_
    refine Pv.icmp rfl (fun c2 => ?_) (fun c2 => ?_)
    · skip
      replace c2 := (i_le (a := 940) (b := k) (by omega) (by omega)).mp (of_decide_eq_true c2)
      omega
    · skip
      replace c2 := mt (i_le (a := 940) (b := k) (by omega) (by omega)).mpr (of_decide_eq_false c2)
      refine Pv.aload rfl rfl ?_
      refine Pv.getR (v := .ref 2) rfl rfl (GW.at (a := 1) (k := 0) (b := 2) hG (by decide)) ?_
      refine Pv.iload rfl rfl ?_
      refine Pv.ald (z := F.1 2 k) rfl (by rw [i_toNat (by omega)]) ?_
      refine Pv.lit rfl ?_
      refine Pv.bin (z := (F.1 2 k) &&& 255) rfl (rfl) ?_
      refine Pv.goto rfl ?_
      exact Pv.ret rfl (by rw [hQ]; exact ⟨rfl, rfl⟩)
set_option maxRecDepth 100000 in
set_option maxHeartbeats 4000000 in
theorem o_couldGoSo {F : FW} {t n j : Nat} {T : St} (hG : GW F) (ht : F.2.1 0 13 = .ref t) (hT : TR F t T) (hn : 1 ≤ n) (hn2 : n ≤ 30) (hj : j < 12) : Pm Z_X10_couldGoSo [.ref 0, .int (Int32.ofNat j), .int (Int32.ofNat n)] F (fun r F' => r = some (.int (b2i (m_wh T j (fun q => F.1 2 q &&& 255) (n - 1)))) ∧ F' = F) := by
  refine Pm.of fun N => ?_
  obtain ⟨Q, hQ⟩ : ∃ Q : Option Value → FW → Prop, Q = (fun r F' => r = some (.int (b2i (m_wh T j (fun q => F.1 2 q &&& 255) (n - 1)))) ∧ F' = F) := ⟨_, rfl⟩
  rw [← hQ]
  refine (show Pv (ab_T (L_X10_couldGoSo Z_X8_valueAt Z_X7_stockAfter)) N 0 [some (.ref 0), some (.int (Int32.ofNat j)), some (.int (Int32.ofNat n)), none] [] F Q from ?_)
  refine Pv.lit rfl ?_
  refine Pv.istore (lo' := [some (.ref 0), some (.int (Int32.ofNat j)), some (.int (Int32.ofNat n)), some (.int 1)]) rfl rfl ?_
  refine Pv.lp (ι := Nat) (lof := fun k => [some (.ref 0), some (.int (Int32.ofNat j)), some (.int (Int32.ofNat n)), some (.int (Int32.ofNat k))]) (Ff := fun k => F) (P := fun k => 1 ≤ k ∧ k ≤ n ∧ m_wh T j (fun q => F.1 2 q &&& 255) (k - 1) = true) ?_ 1 (⟨Nat.le_refl _, hn, rfl⟩)
  rintro N1 hN2 k hi3 ih4
  refine (show Pv _ _ 2 [some (.ref 0), some (.int (Int32.ofNat j)), some (.int (Int32.ofNat n)), some (.int (Int32.ofNat k))] [] F Q from ?_)
  obtain ⟨hk, hkn, hb⟩ := hi3
  refine Pv.iloadS rfl rfl ?_
  refine Pv.iload rfl rfl ?_
  refine Pv.icmp rfl (fun c5 => ?_) (fun c5 => ?_)
  · skip
    replace c5 := (i_le (a := n) (b := k) (by omega) (by omega)).mp (of_decide_eq_true c5)
    refine Pv.lit rfl ?_
    exact Pv.zret rfl (by rw [hQ]; exact ⟨b2_t (by rw [show n - 1 = k - 1 by omega]; exact hb), rfl⟩)
  · skip
    replace c5 := mt (i_le (a := n) (b := k) (by omega) (by omega)).mpr (of_decide_eq_false c5)
    refine Pv.aload rfl rfl ?_
    refine Pv.getR (v := .ref t) rfl rfl (ht) ?_
    refine Pv.iload rfl rfl ?_
    refine Pv.aload rfl rfl ?_
    refine Pv.getR (v := .ref 1) rfl rfl (GW.at (a := 0) (k := 0) (b := 1) hG (by decide)) ?_
    refine Pv.iload rfl rfl ?_
    refine Pv.callVI (as := [.ref 1, .int (Int32.ofNat k)]) (rest := [.int (Int32.ofNat j), .ref t]) (z := F.1 2 k &&& 255) rfl rfl rfl (f_valueAt (k := k) hG (by omega)) ?_
    refine Pv.callVI (as := [.ref t, .int (Int32.ofNat j), .int (F.1 2 k &&& 255)]) (rest := []) (z := ab_max 0 (m_left T j (F.1 2 k &&& 255))) rfl rfl rfl (f_stockAfter (k := j) (x := F.1 2 k &&& 255) hT (by omega)) ?_
    refine Pv.aload rfl rfl ?_
    refine Pv.getR (v := .ref 1) rfl rfl (GW.at (a := 0) (k := 0) (b := 1) hG (by decide)) ?_
    refine Pv.iload rfl rfl ?_
    refine Pv.lit rfl ?_
    refine Pv.bin (z := Int32.ofNat (k + 1)) rfl (i_add k 1) ?_
    refine Pv.callVI (as := [.ref 1, .int (Int32.ofNat (k + 1))]) (rest := [.int (ab_max 0 (m_left T j (F.1 2 k &&& 255)))]) (z := F.1 2 (k + 1) &&& 255) rfl rfl rfl (f_valueAt (k := k + 1) hG (by omega)) ?_
    refine Pv.icmp rfl (fun c6 => ?_) (fun c6 => ?_)
    · skip
      replace c6 := of_decide_eq_true c6
      refine Pv.iinc (y := Int32.ofNat (k + 1)) (lo' := [some (.ref 0), some (.int (Int32.ofNat j)), some (.int (Int32.ofNat n)), some (.int (Int32.ofNat (k + 1)))]) rfl rfl (i_add k 1) rfl ?_
      refine Pv.goto rfl ?_
      exact ih4 (k + 1) (⟨by omega, by omega, by rw [show k + 1 - 1 = k - 1 + 1 by omega]; exact wh_t hb (by rw [show k - 1 + 1 = k by omega, show k - 1 + 2 = k + 1 by omega]; exact c6)⟩)
    · skip
      replace c6 := of_decide_eq_false c6
      refine Pv.lit rfl ?_
      exact Pv.zret rfl (by rw [hQ]; exact ⟨b2_f (wh_z (i := k - 1) (by rw [show k - 1 + 1 = k by omega, show k - 1 + 2 = k + 1 by omega]; exact c6) (by omega)), rfl⟩)
set_option maxRecDepth 100000 in
set_option maxHeartbeats 4000000 in
theorem o_which {F : FW} {t : Nat} {T : St} {S : Sh} (hG : GW F) (ht : F.2.1 0 13 = .ref t) (hT : TR F t T) (hS : SHR F 12 (t_m T) S) (j0 : t = 45 ∨ t = 53) (n : Nat) (hn : F.1 1 1 = Int32.ofNat n) (hn9 : n ≤ 940) : Pm Z_X10_which [.ref 0] F (fun r F' => r = some (.int (a_which T n (fun q => F.1 2 q &&& 255))) ∧ F' = fp F 1 1 0) := by
  refine Pm.of fun N => ?_
  obtain ⟨Q, hQ⟩ : ∃ Q : Option Value → FW → Prop, Q = (fun r F' => r = some (.int (a_which T n (fun q => F.1 2 q &&& 255))) ∧ F' = fp F 1 1 0) := ⟨_, rfl⟩
  rw [← hQ]
  have b3 := hT.mb
  have b4 := hT.nb
  have b5 := hT.gb
  have b6 := m_from_lt S
  have b7 := hS.db
  have q1 : (Int32.ofNat n - 1).toInt = (n : Int) - 1 := by rw [i_subI (by rw [i_toInt (by omega)]; show _ ≤ (n : Int) - 1; omega) (by rw [i_toInt (by omega)]; show (n : Int) - 1 ≤ _; omega), i_toInt (by omega)]; rfl
  have i30 : (30 : Int32).toInt = 30 := rfl
  refine (show Pv (ab_T (L_X10_which Z_X8_valueAt Z_X10_isShore Z_X10_slotOf Z_X10_couldGoSo)) N 0 [some (.ref 0), none, none, none, none, none] [] F Q from ?_)
  refine Pv.aload rfl rfl ?_
  refine Pv.getR (v := .ref 1) rfl rfl (GW.at (a := 0) (k := 0) (b := 1) hG (by decide)) ?_
  refine Pv.getI (z := Int32.ofNat n) rfl rfl (hn) ?_
  refine Pv.istore (lo' := [some (.ref 0), some (.int (Int32.ofNat n)), none, none, none, none]) rfl rfl ?_
  refine Pv.aload rfl rfl ?_
  refine Pv.getR (v := .ref 1) rfl rfl (GW.at (a := 0) (k := 0) (b := 1) hG (by decide)) ?_
  refine Pv.lit rfl ?_
  refine Pv.putI rfl rfl ?_
  refine Pv.iload rfl rfl ?_
  refine Pv.lit rfl ?_
  refine Pv.bin (z := Int32.ofNat n - 1) rfl (rfl) ?_
  refine Pv.istore (lo' := [some (.ref 0), some (.int (Int32.ofNat n)), some (.int (Int32.ofNat n - 1)), none, none, none]) rfl rfl ?_
  refine Pv.iload rfl rfl ?_
  refine Pv.lit rfl ?_
  refine Pv.icmp rfl (fun c1 => ?_) (fun c1 => ?_)
  · skip
    replace c1 := of_decide_eq_true c1
    rw [Int32.lt_iff_toInt_lt] at c1
    rw [q1] at c1
    rw [i_2] at c1
    refine Pv.lit rfl ?_
    exact Pv.ret rfl (by rw [hQ]; exact ⟨by unfold a_which; rw [if_neg (by omega)], rfl⟩)
  · skip
    replace c1 := of_decide_eq_false c1
    refine Pv.iload rfl rfl ?_
    refine Pv.lit rfl ?_
    refine Pv.icmp rfl (fun c2 => ?_) (fun c2 => ?_)
    · skip
      replace c2 := of_decide_eq_true c2
      rw [Int32.lt_iff_toInt_lt] at c1 c2
      rw [q1] at c1 c2
      rw [i_2] at c1
      rw [i30] at c2
      refine Pv.lit rfl ?_
      exact Pv.ret rfl (by rw [hQ]; exact ⟨by unfold a_which; rw [if_neg (by omega)], rfl⟩)
    · skip
      replace c2 := of_decide_eq_false c2
      rw [Int32.lt_iff_toInt_lt] at c1 c2
      rw [q1] at c1 c2
      rw [i_2] at c1
      rw [i30] at c2
      rw [show Int32.ofNat n - 1 = Int32.ofNat (n - 1) from i_subN (a := n) (b := 1) (by omega)]
      refine Pv.aload rfl rfl ?_
      refine Pv.getR (v := .ref 1) rfl rfl (GW.at (a := 0) (k := 0) (b := 1) hG (by decide)) ?_
      refine Pv.lit rfl ?_
      refine Pv.callVI (as := [.ref 1, .int 0]) (rest := []) (z := F.1 2 0 &&& 255) rfl rfl rfl (f_valueAt (k := 0) (hG.fx (P := fun _ => True) (((FX.rf (P := fun _ => True))).fp trivial)) (by omega)) ?_
      refine Pv.callI (as := [.int (F.1 2 0 &&& 255)]) (rest := []) (z := b2i (nd 2 (F.1 2 0 &&& 255)).isSome) rfl rfl rfl (o_isShore (F.1 2 0 &&& 255)) ?_
      refine Pv.if0 rfl (fun c3 => ?_) (fun c3 => ?_)
      · skip
        replace c3 : decide (b2i (nd 2 (F.1 2 0 &&& 255)).isSome = 0) = false := by simpa using c3
        replace c3 := of_decide_eq_false c3
        replace c3 := b2n.mp c3
        obtain ⟨s, hs, hsl, es⟩ := nd_t c3
        refine Pv.aload rfl rfl ?_
        refine Pv.getR (v := .ref 1) rfl rfl (GW.at (a := 0) (k := 0) (b := 1) hG (by decide)) ?_
        refine Pv.lit rfl ?_
        refine Pv.callVI (as := [.ref 1, .int 0]) (rest := []) (z := F.1 2 0 &&& 255) rfl rfl rfl (f_valueAt (k := 0) (hG.fx (P := fun _ => True) (((FX.rf (P := fun _ => True))).fp trivial)) (by omega)) ?_
        rw [show (F.1 2 0 &&& 255) = Int32.ofNat s from es]
        refine Pv.istore (lo' := [some (.ref 0), some (.int (Int32.ofNat n)), some (.int (Int32.ofNat (n - 1))), some (.int (Int32.ofNat s)), none, none]) rfl rfl ?_
        refine Pv.lit rfl ?_
        refine Pv.istore (lo' := [some (.ref 0), some (.int (Int32.ofNat n)), some (.int (Int32.ofNat (n - 1))), some (.int (Int32.ofNat s)), some (.int 0), none]) rfl rfl ?_
        refine Pv.lit rfl ?_
        refine Pv.istore (lo' := [some (.ref 0), some (.int (Int32.ofNat n)), some (.int (Int32.ofNat (n - 1))), some (.int (Int32.ofNat s)), some (.int 0), some (.int 0)]) rfl rfl ?_
        refine Pv.lp (ι := Nat × Int32) (lof := fun ⟨k, b⟩ => [some (.ref 0), some (.int (Int32.ofNat n)), some (.int (Int32.ofNat (n - 1))), some (.int (Int32.ofNat s)), some (.int b), some (.int (Int32.ofNat k))]) (Ff := fun ⟨k, b⟩ => (fp F 1 1 0)) (P := fun ⟨k, b⟩ => k ≤ t_g T ∧ b = m_bits (fun g => m_wh T (2 * g + s) (fun q => F.1 2 q &&& 255) (n - 2)) id k) ?_ (0, 0) (⟨Nat.zero_le _, rfl⟩)
        rintro N4 hN5 ⟨k, b⟩ hi6 ih7
        refine (show Pv _ _ 62 [some (.ref 0), some (.int (Int32.ofNat n)), some (.int (Int32.ofNat (n - 1))), some (.int (Int32.ofNat s)), some (.int b), some (.int (Int32.ofNat k))] [] (fp F 1 1 0) Q from ?_)
        obtain ⟨hk, hb⟩ := hi6
        refine Pv.iloadS rfl rfl ?_
        refine Pv.aload rfl rfl ?_
        refine Pv.getR (v := .ref t) rfl rfl (ht) ?_
        refine Pv.getI (z := Int32.ofNat (t_g T)) rfl rfl ((fp_ne (Or.inl (by omega))).trans (hT.g)) ?_
        refine Pv.icmp rfl (fun c8 => ?_) (fun c8 => ?_)
        · skip
          replace c8 := (i_le (a := t_g T) (b := k) (by omega) (by omega)).mp (of_decide_eq_true c8)
          refine Pv.iload rfl rfl ?_
          exact Pv.ret rfl (by rw [hQ]; exact ⟨by unfold a_which; rw [if_pos (by omega), hs]; dsimp only; rw [hb, show k = t_g T by omega], rfl⟩)
        · skip
          replace c8 := mt (i_le (a := t_g T) (b := k) (by omega) (by omega)).mpr (of_decide_eq_false c8)
          refine Pv.aload rfl rfl ?_
          refine Pv.iload rfl rfl ?_
          refine Pv.iload rfl rfl ?_
          refine Pv.callI (as := [.int (Int32.ofNat k), .int (Int32.ofNat s)]) (rest := [.ref 0]) (z := Int32.ofNat (2 * k + s)) rfl rfl rfl (f_slotOf (g := k) (s := s)) ?_
          refine Pv.iload rfl rfl ?_
          refine Pv.callVI (as := [.ref 0, .int (Int32.ofNat (2 * k + s)), .int (Int32.ofNat (n - 1))]) (rest := []) (z := b2i (m_wh T (2 * k + s) (fun q => F.1 2 q &&& 255) ((n - 1) - 1))) rfl rfl rfl (o_couldGoSo (n := n - 1) (j := 2 * k + s) (hG.fx (P := fun _ => True) (((FX.rf (P := fun _ => True))).fp trivial)) ht (hT.fx (P := fun q => q = 1) (((FX.rf (P := fun q => q = 1))).fp rfl) (fun q h1 h2 (c : q = 1) => by omega)) (by omega) (by omega) (by omega)) ?_
          refine Pv.if0 rfl (fun c9 => ?_) (fun c9 => ?_)
          · skip
            replace c9 := of_decide_eq_true c9
            replace c9 := b2z.mp c9
            refine Pv.iinc (y := Int32.ofNat (k + 1)) (lo' := [some (.ref 0), some (.int (Int32.ofNat n)), some (.int (Int32.ofNat (n - 1))), some (.int (Int32.ofNat s)), some (.int b), some (.int (Int32.ofNat (k + 1)))]) rfl rfl (i_add k 1) rfl ?_
            refine Pv.goto rfl ?_
            exact ih7 (k + 1, b) (⟨by omega, hb.trans (m_bits_f (by show m_wh T (2 * k + s) _ (n - 2) = _; rw [show n - 2 = n - 1 - 1 by omega]; exact c9)).symm⟩)
          · skip
            replace c9 := of_decide_eq_false c9
            replace c9 := b2n.mp c9
            refine Pv.iload rfl rfl ?_
            refine Pv.lit rfl ?_
            refine Pv.iload rfl rfl ?_
            refine Pv.bin (z := 1 <<< ((Int32.ofNat k) &&& 31)) rfl (rfl) ?_
            refine Pv.bin (z := b ||| (1 <<< ((Int32.ofNat k) &&& 31))) rfl (rfl) ?_
            refine Pv.istore (lo' := [some (.ref 0), some (.int (Int32.ofNat n)), some (.int (Int32.ofNat (n - 1))), some (.int (Int32.ofNat s)), some (.int (b ||| (1 <<< ((Int32.ofNat k) &&& 31)))), some (.int (Int32.ofNat k))]) rfl rfl ?_
            refine Pv.iinc (y := Int32.ofNat (k + 1)) (lo' := [some (.ref 0), some (.int (Int32.ofNat n)), some (.int (Int32.ofNat (n - 1))), some (.int (Int32.ofNat s)), some (.int (b ||| (1 <<< ((Int32.ofNat k) &&& 31)))), some (.int (Int32.ofNat (k + 1)))]) rfl rfl (i_add k 1) rfl ?_
            refine Pv.goto rfl ?_
            exact ih7 (k + 1, b ||| (1 <<< ((Int32.ofNat k) &&& 31))) (⟨by omega, by rw [m_bits_t (f := (fun g => m_wh T (2 * g + s) (fun q => F.1 2 q &&& 255) (n - 2))) (g := id) (k := k) (by show m_wh T (2 * k + s) _ (n - 2) = _; rw [show n - 2 = n - 1 - 1 by omega]; exact c9), hb]; rfl⟩)
      · skip
        replace c3 : decide (b2i (nd 2 (F.1 2 0 &&& 255)).isSome = 0) = true := by simpa using c3
        replace c3 := of_decide_eq_true c3
        replace c3 := b2z.mp c3
        refine Pv.lit rfl ?_
        exact Pv.ret rfl (by rw [hQ]; exact ⟨by unfold a_which; rw [if_pos (by omega), nd_f c3], rfl⟩)
set_option maxRecDepth 100000 in
set_option maxHeartbeats 4000000 in
theorem f_perform0 {F : FW} {p m k n : Nat} {S : Sh} (hS : SHR F p m S) (hk : k < 12) (hn : n < 1000) : Pm Z_X6_perform [.ref p, .int 0, .int (Int32.ofNat k), .int (Int32.ofNat n)] F (fun r F' => r = none ∧ FX (fun q => p ≤ q ∧ q ≤ p + 7) F F' ∧ SHR F' p m (m_do 0 S k (Int32.ofNat n))) := by
  refine Pm.of fun N => ?_
  obtain ⟨Q, hQ⟩ : ∃ Q : Option Value → FW → Prop, Q = (fun r F' => r = none ∧ FX (fun q => p ≤ q ∧ q ≤ p + 7) F F' ∧ SHR F' p m (m_do 0 S k (Int32.ofNat n))) := ⟨_, rfl⟩
  rw [← hQ]
  refine (show Pv (ab_T L_X6_perform) N 0 [some (.ref p), some (.int 0), some (.int (Int32.ofNat k)), some (.int (Int32.ofNat n))] [] F Q from ?_)
  refine Pv.iload rfl rfl ?_
  refine Pv.lit rfl ?_
  refine Pv.icmp rfl (fun c1 => ?_) (fun c1 => ?_)
  · skip
    replace c1 : decide ((0 : Int32) = 3) = false := by simpa using c1
    replace c1 := mt (i_eq (a := 0) (b := 3) (by omega) (by omega)).mpr (of_decide_eq_false c1)
    refine Pv.aload rfl rfl ?_
    refine Pv.getR (v := .ref (p + 1)) rfl rfl (hS.o 0 (by decide)) ?_
    refine Pv.iload rfl rfl ?_
    refine Pv.dup2 rfl ?_
    refine Pv.ald (z := h_s S k) rfl (by rw [i_toNat (by omega)]; exact hS.s _ (by omega)) ?_
    refine Pv.iload rfl rfl ?_
    refine Pv.lit rfl ?_
    refine Pv.icmp rfl (fun c2 => ?_) (fun c2 => ?_)
    · skip
      replace c2 : decide ((0 : Int32) = 1) = false := by simpa using c2
      replace c2 := mt (i_eq (a := 0) (b := 1) (by omega) (by omega)).mpr (of_decide_eq_false c2)
      refine Pv.iload rfl rfl ?_
      refine Pv.un (z := -(Int32.ofNat n)) rfl (rfl) ?_
      refine Pv.bin (z := (h_s S k) + (-(Int32.ofNat n))) rfl (rfl) ?_
      refine Pv.astk (k := k) (z := (h_s S k) + (-(Int32.ofNat n))) rfl (i_toNat (by omega)) (rfl) ?_
      refine Pv.iload rfl rfl ?_
      refine Pv.if0 rfl (fun c3 => ?_) (fun c3 => ?_)
      · skip
        replace c3 : decide ((0 : Int32) = 0) = false := by simpa using c3
        replace c3 := mt (i_eq (a := 0) (b := 0) (by omega) (by omega)).mpr (of_decide_eq_false c3)
        omega
      · skip
        replace c3 : decide ((0 : Int32) = 0) = true := by simpa using c3
        replace c3 := (i_eq (a := 0) (b := 0) (by omega) (by omega)).mp (of_decide_eq_true c3)
        refine Pv.aload rfl rfl ?_
        refine Pv.getR (v := .ref (p + 2)) rfl rfl (hS.o 1 (by decide)) ?_
        refine Pv.iload rfl rfl ?_
        refine Pv.dup2 rfl ?_
        refine Pv.ald (z := h_h S k) rfl (by rw [i_toNat (by omega)]; exact (fp_ne (Or.inl (by omega))).trans (hS.h _ (by omega))) ?_
        refine Pv.iload rfl rfl ?_
        refine Pv.bin (z := (h_h S k) + (Int32.ofNat n)) rfl (rfl) ?_
        refine Pv.astk (k := k) (z := (h_h S k) + (Int32.ofNat n)) rfl (i_toNat (by omega)) (rfl) ?_
        refine Pv.goto rfl ?_
        exact Pv.vret rfl (by rw [hQ]; exact ⟨rfl, (((FX.rf (P := fun q => p ≤ q ∧ q ≤ p + 7))).fp (show p ≤ (p + 1) ∧ (p + 1) ≤ p + 7 by omega)).fp (show p ≤ (p + 2) ∧ (p + 2) ≤ p + 7 by omega), hS.o, hS.db, ((hS.s).up).ne (by omega), ((hS.h).ne (by omega)).up, ((hS.u).ne (by omega)).ne (by omega), ((hS.c).ne (by omega)).ne (by omega), ((hS.a).ne (by omega)).ne (by omega), ((hS.t).ne (by omega)).ne (by omega), ((hS.p).ne (by omega)).ne (by omega), (fp_ne (Or.inl (by omega))).trans ((fp_ne (Or.inl (by omega))).trans (hS.d)), (fp_ne (Or.inl (by omega))).trans ((fp_ne (Or.inl (by omega))).trans (hS.i)), (fp_ne (Or.inl (by omega))).trans ((fp_ne (Or.inl (by omega))).trans (hS.r))⟩)
    · skip
      replace c2 : decide ((0 : Int32) = 1) = true := by simpa using c2
      replace c2 := (i_eq (a := 0) (b := 1) (by omega) (by omega)).mp (of_decide_eq_true c2)
      omega
  · skip
    replace c1 : decide ((0 : Int32) = 3) = true := by simpa using c1
    replace c1 := (i_eq (a := 0) (b := 3) (by omega) (by omega)).mp (of_decide_eq_true c1)
    omega
set_option maxRecDepth 100000 in
set_option maxHeartbeats 4000000 in
theorem f_whyNot0 {F : FW} {p m k n : Nat} {S : Sh} (hS : SHR F p m S) (hk : k < 12) (hn : n < 1000) : Pm Z_X6_whyNot [.ref p, .int 0, .int (Int32.ofNat k), .int (Int32.ofNat n)] F (fun r F' => r = some (.int (m_why 0 S k (Int32.ofNat n))) ∧ F' = F) := by
  refine Pm.of fun N => ?_
  obtain ⟨Q, hQ⟩ : ∃ Q : Option Value → FW → Prop, Q = (fun r F' => r = some (.int (m_why 0 S k (Int32.ofNat n))) ∧ F' = F) := ⟨_, rfl⟩
  rw [← hQ]
  refine (show Pv (ab_T (L_X6_whyNot Z_X6_isAlive)) N 0 [some (.ref p), some (.int 0), some (.int (Int32.ofNat k)), some (.int (Int32.ofNat n))] [] F Q from ?_)
  refine Pv.iload rfl rfl ?_
  refine Pv.tab (t := 28) rfl rfl ?_
  refine Pv.aload rfl rfl ?_
  refine Pv.getR (v := .ref (p + 1)) rfl rfl (hS.o 0 (by decide)) ?_
  refine Pv.iload rfl rfl ?_
  refine Pv.ald (z := h_s S k) rfl (by rw [i_toNat (by omega)]; exact hS.s _ (by omega)) ?_
  refine Pv.iload rfl rfl ?_
  refine Pv.icmp rfl (fun c1 => ?_) (fun c1 => ?_)
  · skip
    replace c1 := of_decide_eq_true c1
    refine Pv.lit rfl ?_
    exact Pv.ret rfl (by rw [hQ]; exact ⟨by unfold m_why; simp [c1], rfl⟩)
  · skip
    replace c1 := of_decide_eq_false c1
    refine Pv.lit rfl ?_
    refine Pv.goto rfl ?_
    exact Pv.ret rfl (by rw [hQ]; exact ⟨by unfold m_why; simp [c1], rfl⟩)
set_option maxRecDepth 100000 in
set_option maxHeartbeats 4000000 in
theorem f_perform1 {F : FW} {p m k n : Nat} {S : Sh} (hS : SHR F p m S) (hk : k < 12) (hn : n < 1000) : Pm Z_X6_perform [.ref p, .int 1, .int (Int32.ofNat k), .int (Int32.ofNat n)] F (fun r F' => r = none ∧ FX (fun q => p ≤ q ∧ q ≤ p + 7) F F' ∧ SHR F' p m (m_do 1 S k (Int32.ofNat n))) := by
  refine Pm.of fun N => ?_
  obtain ⟨Q, hQ⟩ : ∃ Q : Option Value → FW → Prop, Q = (fun r F' => r = none ∧ FX (fun q => p ≤ q ∧ q ≤ p + 7) F F' ∧ SHR F' p m (m_do 1 S k (Int32.ofNat n))) := ⟨_, rfl⟩
  rw [← hQ]
  refine (show Pv (ab_T L_X6_perform) N 0 [some (.ref p), some (.int 1), some (.int (Int32.ofNat k)), some (.int (Int32.ofNat n))] [] F Q from ?_)
  refine Pv.iload rfl rfl ?_
  refine Pv.lit rfl ?_
  refine Pv.icmp rfl (fun c1 => ?_) (fun c1 => ?_)
  · skip
    replace c1 : decide ((1 : Int32) = 3) = false := by simpa using c1
    replace c1 := mt (i_eq (a := 1) (b := 3) (by omega) (by omega)).mpr (of_decide_eq_false c1)
    refine Pv.aload rfl rfl ?_
    refine Pv.getR (v := .ref (p + 1)) rfl rfl (hS.o 0 (by decide)) ?_
    refine Pv.iload rfl rfl ?_
    refine Pv.dup2 rfl ?_
    refine Pv.ald (z := h_s S k) rfl (by rw [i_toNat (by omega)]; exact hS.s _ (by omega)) ?_
    refine Pv.iload rfl rfl ?_
    refine Pv.lit rfl ?_
    refine Pv.icmp rfl (fun c2 => ?_) (fun c2 => ?_)
    · skip
      replace c2 : decide ((1 : Int32) = 1) = false := by simpa using c2
      replace c2 := mt (i_eq (a := 1) (b := 1) (by omega) (by omega)).mpr (of_decide_eq_false c2)
      omega
    · skip
      replace c2 : decide ((1 : Int32) = 1) = true := by simpa using c2
      replace c2 := (i_eq (a := 1) (b := 1) (by omega) (by omega)).mp (of_decide_eq_true c2)
      refine Pv.iload rfl rfl ?_
      refine Pv.goto rfl ?_
      refine Pv.bin (z := (h_s S k) + (Int32.ofNat n)) rfl (rfl) ?_
      refine Pv.astk (k := k) (z := (h_s S k) + (Int32.ofNat n)) rfl (i_toNat (by omega)) (rfl) ?_
      refine Pv.iload rfl rfl ?_
      refine Pv.if0 rfl (fun c3 => ?_) (fun c3 => ?_)
      · skip
        replace c3 : decide ((1 : Int32) = 0) = false := by simpa using c3
        replace c3 := mt (i_eq (a := 1) (b := 0) (by omega) (by omega)).mpr (of_decide_eq_false c3)
        refine Pv.iload rfl rfl ?_
        refine Pv.lit rfl ?_
        refine Pv.icmp rfl (fun c4 => ?_) (fun c4 => ?_)
        · skip
          replace c4 : decide ((1 : Int32) = 1) = false := by simpa using c4
          replace c4 := mt (i_eq (a := 1) (b := 1) (by omega) (by omega)).mpr (of_decide_eq_false c4)
          omega
        · skip
          replace c4 : decide ((1 : Int32) = 1) = true := by simpa using c4
          replace c4 := (i_eq (a := 1) (b := 1) (by omega) (by omega)).mp (of_decide_eq_true c4)
          refine Pv.aload rfl rfl ?_
          refine Pv.getR (v := .ref (p + 2)) rfl rfl (hS.o 1 (by decide)) ?_
          refine Pv.iload rfl rfl ?_
          refine Pv.dup2 rfl ?_
          refine Pv.ald (z := h_h S k) rfl (by rw [i_toNat (by omega)]; exact (fp_ne (Or.inl (by omega))).trans (hS.h _ (by omega))) ?_
          refine Pv.iload rfl rfl ?_
          refine Pv.bin (z := (h_h S k) - (Int32.ofNat n)) rfl (rfl) ?_
          refine Pv.astk (k := k) (z := (h_h S k) - (Int32.ofNat n)) rfl (i_toNat (by omega)) (rfl) ?_
          exact Pv.vret rfl (by rw [hQ]; exact ⟨rfl, (((FX.rf (P := fun q => p ≤ q ∧ q ≤ p + 7))).fp (show p ≤ (p + 1) ∧ (p + 1) ≤ p + 7 by omega)).fp (show p ≤ (p + 2) ∧ (p + 2) ≤ p + 7 by omega), hS.o, hS.db, ((hS.s).up).ne (by omega), ((hS.h).ne (by omega)).up, ((hS.u).ne (by omega)).ne (by omega), ((hS.c).ne (by omega)).ne (by omega), ((hS.a).ne (by omega)).ne (by omega), ((hS.t).ne (by omega)).ne (by omega), ((hS.p).ne (by omega)).ne (by omega), (fp_ne (Or.inl (by omega))).trans ((fp_ne (Or.inl (by omega))).trans (hS.d)), (fp_ne (Or.inl (by omega))).trans ((fp_ne (Or.inl (by omega))).trans (hS.i)), (fp_ne (Or.inl (by omega))).trans ((fp_ne (Or.inl (by omega))).trans (hS.r))⟩)
      · skip
        replace c3 : decide ((1 : Int32) = 0) = true := by simpa using c3
        replace c3 := (i_eq (a := 1) (b := 0) (by omega) (by omega)).mp (of_decide_eq_true c3)
        omega
  · skip
    replace c1 : decide ((1 : Int32) = 3) = true := by simpa using c1
    replace c1 := (i_eq (a := 1) (b := 3) (by omega) (by omega)).mp (of_decide_eq_true c1)
    omega
set_option maxRecDepth 100000 in
set_option maxHeartbeats 4000000 in
theorem f_whyNot1 {F : FW} {p m k n : Nat} {S : Sh} (hS : SHR F p m S) (hk : k < 12) (hn : n < 1000) : Pm Z_X6_whyNot [.ref p, .int 1, .int (Int32.ofNat k), .int (Int32.ofNat n)] F (fun r F' => r = some (.int (m_why 1 S k (Int32.ofNat n))) ∧ F' = F) := by
  refine Pm.of fun N => ?_
  obtain ⟨Q, hQ⟩ : ∃ Q : Option Value → FW → Prop, Q = (fun r F' => r = some (.int (m_why 1 S k (Int32.ofNat n))) ∧ F' = F) := ⟨_, rfl⟩
  rw [← hQ]
  refine (show Pv (ab_T (L_X6_whyNot Z_X6_isAlive)) N 0 [some (.ref p), some (.int 1), some (.int (Int32.ofNat k)), some (.int (Int32.ofNat n))] [] F Q from ?_)
  refine Pv.iload rfl rfl ?_
  refine Pv.tab (t := 44) rfl rfl ?_
  refine Pv.aload rfl rfl ?_
  refine Pv.getR (v := .ref (p + 2)) rfl rfl (hS.o 1 (by decide)) ?_
  refine Pv.iload rfl rfl ?_
  refine Pv.ald (z := h_h S k) rfl (by rw [i_toNat (by omega)]; exact hS.h _ (by omega)) ?_
  refine Pv.iload rfl rfl ?_
  refine Pv.icmp rfl (fun c1 => ?_) (fun c1 => ?_)
  · skip
    replace c1 := of_decide_eq_true c1
    refine Pv.aload rfl rfl ?_
    refine Pv.getR (v := .ref (p + 1)) rfl rfl (hS.o 0 (by decide)) ?_
    refine Pv.iload rfl rfl ?_
    refine Pv.ald (z := h_s S k) rfl (by rw [i_toNat (by omega)]; exact hS.s _ (by omega)) ?_
    refine Pv.iload rfl rfl ?_
    refine Pv.bin (z := (h_s S k) + (Int32.ofNat n)) rfl (rfl) ?_
    refine Pv.lit rfl ?_
    refine Pv.icmp rfl (fun c2 => ?_) (fun c2 => ?_)
    · skip
      replace c2 := of_decide_eq_true c2
      refine Pv.lit rfl ?_
      exact Pv.ret rfl (by rw [hQ]; exact ⟨by show _ = some (Value.int (if h_h S k < Int32.ofNat n then 1 else if 999 < h_s S k + Int32.ofNat n then 2 else 0)); rw [if_neg (Int32.not_lt.mpr c1), if_neg (Int32.not_lt.mpr c2)], rfl⟩)
    · skip
      replace c2 := of_decide_eq_false c2
      refine Pv.lit rfl ?_
      refine Pv.goto rfl ?_
      exact Pv.ret rfl (by rw [hQ]; exact ⟨by show _ = some (Value.int (if h_h S k < Int32.ofNat n then 1 else if 999 < h_s S k + Int32.ofNat n then 2 else 0)); rw [if_neg (Int32.not_lt.mpr c1), if_pos (Int32.not_le.mp c2)], rfl⟩)
  · skip
    replace c1 := of_decide_eq_false c1
    refine Pv.lit rfl ?_
    refine Pv.goto rfl ?_
    exact Pv.ret rfl (by rw [hQ]; exact ⟨by show _ = some (Value.int (if h_h S k < Int32.ofNat n then 1 else if 999 < h_s S k + Int32.ofNat n then 2 else 0)); rw [if_pos (Int32.not_le.mp c1)], rfl⟩)
set_option maxRecDepth 100000 in
set_option maxHeartbeats 4000000 in
theorem f_perform2 {F : FW} {p m k n : Nat} {S : Sh} (hS : SHR F p m S) (hk : k < 12) (hn : n < 1000) : Pm Z_X6_perform [.ref p, .int 2, .int (Int32.ofNat k), .int (Int32.ofNat n)] F (fun r F' => r = none ∧ FX (fun q => p ≤ q ∧ q ≤ p + 7) F F' ∧ SHR F' p m (m_do 2 S k (Int32.ofNat n))) := by
  refine Pm.of fun N => ?_
  obtain ⟨Q, hQ⟩ : ∃ Q : Option Value → FW → Prop, Q = (fun r F' => r = none ∧ FX (fun q => p ≤ q ∧ q ≤ p + 7) F F' ∧ SHR F' p m (m_do 2 S k (Int32.ofNat n))) := ⟨_, rfl⟩
  rw [← hQ]
  refine (show Pv (ab_T L_X6_perform) N 0 [some (.ref p), some (.int 2), some (.int (Int32.ofNat k)), some (.int (Int32.ofNat n))] [] F Q from ?_)
  refine Pv.iload rfl rfl ?_
  refine Pv.lit rfl ?_
  refine Pv.icmp rfl (fun c1 => ?_) (fun c1 => ?_)
  · skip
    replace c1 : decide ((2 : Int32) = 3) = false := by simpa using c1
    replace c1 := mt (i_eq (a := 2) (b := 3) (by omega) (by omega)).mpr (of_decide_eq_false c1)
    refine Pv.aload rfl rfl ?_
    refine Pv.getR (v := .ref (p + 1)) rfl rfl (hS.o 0 (by decide)) ?_
    refine Pv.iload rfl rfl ?_
    refine Pv.dup2 rfl ?_
    refine Pv.ald (z := h_s S k) rfl (by rw [i_toNat (by omega)]; exact hS.s _ (by omega)) ?_
    refine Pv.iload rfl rfl ?_
    refine Pv.lit rfl ?_
    refine Pv.icmp rfl (fun c2 => ?_) (fun c2 => ?_)
    · skip
      replace c2 : decide ((2 : Int32) = 1) = false := by simpa using c2
      replace c2 := mt (i_eq (a := 2) (b := 1) (by omega) (by omega)).mpr (of_decide_eq_false c2)
      refine Pv.iload rfl rfl ?_
      refine Pv.un (z := -(Int32.ofNat n)) rfl (rfl) ?_
      refine Pv.bin (z := (h_s S k) + (-(Int32.ofNat n))) rfl (rfl) ?_
      refine Pv.astk (k := k) (z := (h_s S k) + (-(Int32.ofNat n))) rfl (i_toNat (by omega)) (rfl) ?_
      refine Pv.iload rfl rfl ?_
      refine Pv.if0 rfl (fun c3 => ?_) (fun c3 => ?_)
      · skip
        replace c3 : decide ((2 : Int32) = 0) = false := by simpa using c3
        replace c3 := mt (i_eq (a := 2) (b := 0) (by omega) (by omega)).mpr (of_decide_eq_false c3)
        refine Pv.iload rfl rfl ?_
        refine Pv.lit rfl ?_
        refine Pv.icmp rfl (fun c4 => ?_) (fun c4 => ?_)
        · skip
          replace c4 : decide ((2 : Int32) = 1) = false := by simpa using c4
          replace c4 := mt (i_eq (a := 2) (b := 1) (by omega) (by omega)).mpr (of_decide_eq_false c4)
          exact Pv.vret rfl (by rw [hQ]; exact ⟨rfl, ((FX.rf (P := fun q => p ≤ q ∧ q ≤ p + 7))).fp (show p ≤ (p + 1) ∧ (p + 1) ≤ p + 7 by omega), hS.o, hS.db, (hS.s).up, (hS.h).ne (by omega), (hS.u).ne (by omega), (hS.c).ne (by omega), (hS.a).ne (by omega), (hS.t).ne (by omega), (hS.p).ne (by omega), (fp_ne (Or.inl (by omega))).trans (hS.d), (fp_ne (Or.inl (by omega))).trans (hS.i), (fp_ne (Or.inl (by omega))).trans (hS.r)⟩)
        · skip
          replace c4 : decide ((2 : Int32) = 1) = true := by simpa using c4
          replace c4 := (i_eq (a := 2) (b := 1) (by omega) (by omega)).mp (of_decide_eq_true c4)
          omega
      · skip
        replace c3 : decide ((2 : Int32) = 0) = true := by simpa using c3
        replace c3 := (i_eq (a := 2) (b := 0) (by omega) (by omega)).mp (of_decide_eq_true c3)
        omega
    · skip
      replace c2 : decide ((2 : Int32) = 1) = true := by simpa using c2
      replace c2 := (i_eq (a := 2) (b := 1) (by omega) (by omega)).mp (of_decide_eq_true c2)
      omega
  · skip
    replace c1 : decide ((2 : Int32) = 3) = true := by simpa using c1
    replace c1 := (i_eq (a := 2) (b := 3) (by omega) (by omega)).mp (of_decide_eq_true c1)
    omega
set_option maxRecDepth 100000 in
set_option maxHeartbeats 4000000 in
theorem f_whyNot2 {F : FW} {p m k n : Nat} {S : Sh} (hS : SHR F p m S) (hk : k < 12) (hn : n < 1000) : Pm Z_X6_whyNot [.ref p, .int 2, .int (Int32.ofNat k), .int (Int32.ofNat n)] F (fun r F' => r = some (.int (m_why 2 S k (Int32.ofNat n))) ∧ F' = F) := by
  refine Pm.of fun N => ?_
  obtain ⟨Q, hQ⟩ : ∃ Q : Option Value → FW → Prop, Q = (fun r F' => r = some (.int (m_why 2 S k (Int32.ofNat n))) ∧ F' = F) := ⟨_, rfl⟩
  rw [← hQ]
  refine (show Pv (ab_T (L_X6_whyNot Z_X6_isAlive)) N 0 [some (.ref p), some (.int 2), some (.int (Int32.ofNat k)), some (.int (Int32.ofNat n))] [] F Q from ?_)
  refine Pv.iload rfl rfl ?_
  refine Pv.tab (t := 78) rfl rfl ?_
  refine Pv.aload rfl rfl ?_
  refine Pv.getR (v := .ref (p + 1)) rfl rfl (hS.o 0 (by decide)) ?_
  refine Pv.iload rfl rfl ?_
  refine Pv.ald (z := h_s S k) rfl (by rw [i_toNat (by omega)]; exact hS.s _ (by omega)) ?_
  refine Pv.iload rfl rfl ?_
  refine Pv.icmp rfl (fun c1 => ?_) (fun c1 => ?_)
  · skip
    replace c1 := of_decide_eq_true c1
    refine Pv.lit rfl ?_
    exact Pv.ret rfl (by rw [hQ]; exact ⟨by unfold m_why; simp [c1], rfl⟩)
  · skip
    replace c1 := of_decide_eq_false c1
    refine Pv.lit rfl ?_
    refine Pv.goto rfl ?_
    exact Pv.ret rfl (by rw [hQ]; exact ⟨by unfold m_why; simp [c1], rfl⟩)
set_option maxRecDepth 100000 in
set_option maxHeartbeats 4000000 in
theorem f_perform3 {F : FW} {p m k : Nat} {S : Sh} (hS : SHR F p m S) (hk : k < m) (hm : m ≤ 8) : Pm Z_X6_perform [.ref p, .int 3, .int (Int32.ofNat k), .int 0] F (fun r F' => r = none ∧ FX (fun q => p ≤ q ∧ q ≤ p + 7) F F' ∧ SHR F' p m (m_do 3 S k 0)) := by
  refine Pm.of fun N => ?_
  obtain ⟨Q, hQ⟩ : ∃ Q : Option Value → FW → Prop, Q = (fun r F' => r = none ∧ FX (fun q => p ≤ q ∧ q ≤ p + 7) F F' ∧ SHR F' p m (m_do 3 S k 0)) := ⟨_, rfl⟩
  rw [← hQ]
  refine (show Pv (ab_T L_X6_perform) N 0 [some (.ref p), some (.int 3), some (.int (Int32.ofNat k)), some (.int 0)] [] F Q from ?_)
  refine Pv.iload rfl rfl ?_
  refine Pv.lit rfl ?_
  refine Pv.icmp rfl (fun c1 => ?_) (fun c1 => ?_)
  · skip
    replace c1 : decide ((3 : Int32) = 3) = false := by simpa using c1
    replace c1 := mt (i_eq (a := 3) (b := 3) (by omega) (by omega)).mpr (of_decide_eq_false c1)
    omega
  · skip
    replace c1 : decide ((3 : Int32) = 3) = true := by simpa using c1
    replace c1 := (i_eq (a := 3) (b := 3) (by omega) (by omega)).mp (of_decide_eq_true c1)
    refine Pv.aload rfl rfl ?_
    refine Pv.getR (v := .ref (p + 5)) rfl rfl (hS.o 4 (by decide)) ?_
    refine Pv.iload rfl rfl ?_
    refine Pv.lit rfl ?_
    refine Pv.astk (k := k) (z := (-1)) rfl (i_toNat (by omega)) (rfl) ?_
    exact Pv.vret rfl (by rw [hQ]; exact ⟨rfl, ((FX.rf (P := fun q => p ≤ q ∧ q ≤ p + 7))).fp (show p ≤ (p + 5) ∧ (p + 5) ≤ p + 7 by omega), hS.o, hS.db, (hS.s).ne (by omega), (hS.h).ne (by omega), (hS.u).ne (by omega), (hS.c).ne (by omega), (hS.a).up, (hS.t).ne (by omega), (hS.p).ne (by omega), (fp_ne (Or.inl (by omega))).trans (hS.d), (fp_ne (Or.inl (by omega))).trans (hS.i), (fp_ne (Or.inl (by omega))).trans (hS.r)⟩)
set_option maxRecDepth 100000 in
set_option maxHeartbeats 4000000 in
theorem f_whyNot3 {F : FW} {p m k : Nat} {S : Sh} (hS : SHR F p m S) (hk : k < m) (hm : m ≤ 8) : Pm Z_X6_whyNot [.ref p, .int 3, .int (Int32.ofNat k), .int 0] F (fun r F' => r = some (.int (m_why 3 S k 0)) ∧ F' = F) := by
  refine Pm.of fun N => ?_
  obtain ⟨Q, hQ⟩ : ∃ Q : Option Value → FW → Prop, Q = (fun r F' => r = some (.int (m_why 3 S k 0)) ∧ F' = F) := ⟨_, rfl⟩
  rw [← hQ]
  refine (show Pv (ab_T (L_X6_whyNot Z_X6_isAlive)) N 0 [some (.ref p), some (.int 3), some (.int (Int32.ofNat k)), some (.int 0)] [] F Q from ?_)
  refine Pv.iload rfl rfl ?_
  refine Pv.tab (t := 94) rfl rfl ?_
  refine Pv.aload rfl rfl ?_
  refine Pv.iload rfl rfl ?_
  refine Pv.callVI (as := [.ref p, .int (Int32.ofNat k)]) (rest := []) (z := b2i (m_alive S k)) rfl rfl rfl (f_isAlive (m := k) hS (by omega) (by omega)) ?_
  refine Pv.if0 rfl (fun c1 => ?_) (fun c1 => ?_)
  · skip
    replace c1 := of_decide_eq_true c1
    replace c1 := b2z.mp c1
    refine Pv.lit rfl ?_
    exact Pv.ret rfl (by rw [hQ]; exact ⟨by unfold m_why; simp [c1], rfl⟩)
  · skip
    replace c1 := of_decide_eq_false c1
    replace c1 := b2n.mp c1
    refine Pv.lit rfl ?_
    refine Pv.goto rfl ?_
    exact Pv.ret rfl (by rw [hQ]; exact ⟨by unfold m_why; simp [c1], rfl⟩)
set_option maxRecDepth 100000 in
set_option maxHeartbeats 4000000 in
theorem f_attempt0 {F : FW} {p m k n : Nat} {S : Sh} (hS : SHR F p m S) (hk : k < 12) (hn : n < 1000) : Pm Z_X6_attempt [.ref p, .int 0, .int (Int32.ofNat k), .int (Int32.ofNat n)] F (fun r F' => r = some (.int (m_why 0 S k (Int32.ofNat n))) ∧ FX (fun q => p ≤ q ∧ q ≤ p + 7) F F' ∧ SHR F' p m (m_try 0 S k (Int32.ofNat n))) := by
  refine Pm.of fun N => ?_
  obtain ⟨Q, hQ⟩ : ∃ Q : Option Value → FW → Prop, Q = (fun r F' => r = some (.int (m_why 0 S k (Int32.ofNat n))) ∧ FX (fun q => p ≤ q ∧ q ≤ p + 7) F F' ∧ SHR F' p m (m_try 0 S k (Int32.ofNat n))) := ⟨_, rfl⟩
  rw [← hQ]
  refine (show Pv (ab_T (L_X6_attempt Z_X6_whyNot Z_X6_perform)) N 0 [some (.ref p), some (.int 0), some (.int (Int32.ofNat k)), some (.int (Int32.ofNat n)), none] [] F Q from ?_)
  refine Pv.aload rfl rfl ?_
  refine Pv.iload rfl rfl ?_
  refine Pv.iload rfl rfl ?_
  refine Pv.iload rfl rfl ?_
  refine Pv.callVI (as := [.ref p, .int 0, .int (Int32.ofNat k), .int (Int32.ofNat n)]) (rest := []) (z := m_why 0 S k (Int32.ofNat n)) rfl rfl rfl (f_whyNot0 hS hk hn) ?_
  refine Pv.istore (lo' := [some (.ref p), some (.int 0), some (.int (Int32.ofNat k)), some (.int (Int32.ofNat n)), some (.int (m_why 0 S k (Int32.ofNat n)))]) rfl rfl ?_
  refine Pv.iload rfl rfl ?_
  refine Pv.if0 rfl (fun c1 => ?_) (fun c1 => ?_)
  · skip
    replace c1 : decide (m_why 0 S k (Int32.ofNat n) = 0) = false := by simpa using c1
    replace c1 := of_decide_eq_false c1
    refine Pv.iload rfl rfl ?_
    exact Pv.ret rfl (by rw [hQ]; exact ⟨rfl, FX.rf, by unfold m_try; rw [if_neg c1]; exact hS⟩)
  · skip
    replace c1 : decide (m_why 0 S k (Int32.ofNat n) = 0) = true := by simpa using c1
    replace c1 := of_decide_eq_true c1
    refine Pv.aload rfl rfl ?_
    refine Pv.iload rfl rfl ?_
    refine Pv.iload rfl rfl ?_
    refine Pv.iload rfl rfl ?_
    refine Pv.callV (as := [.ref p, .int 0, .int (Int32.ofNat k), .int (Int32.ofNat n)]) (rest := []) rfl rfl rfl (f_perform0 hS hk hn) ?_
    rintro _ G2 ⟨rfl, x3, sr5⟩
    have hx4 := FX.tr (P := fun q => p ≤ q ∧ q ≤ p + 7) FX.rf (x3.wd (fun q (c : p ≤ q ∧ q ≤ p + 7) => (show p ≤ q ∧ q ≤ p + 7 by omega)))
    refine (show Pv _ _ 21 [some (.ref p), some (.int 0), some (.int (Int32.ofNat k)), some (.int (Int32.ofNat n)), some (.int (m_why 0 S k (Int32.ofNat n)))] [] G2 Q from ?_)
    refine Pv.iload rfl rfl ?_
    exact Pv.ret rfl (by rw [hQ]; exact ⟨rfl, hx4, by unfold m_try; rw [if_pos c1]; exact sr5⟩)
set_option maxRecDepth 100000 in
set_option maxHeartbeats 4000000 in
theorem f_attempt1 {F : FW} {p m k n : Nat} {S : Sh} (hS : SHR F p m S) (hk : k < 12) (hn : n < 1000) : Pm Z_X6_attempt [.ref p, .int 1, .int (Int32.ofNat k), .int (Int32.ofNat n)] F (fun r F' => r = some (.int (m_why 1 S k (Int32.ofNat n))) ∧ FX (fun q => p ≤ q ∧ q ≤ p + 7) F F' ∧ SHR F' p m (m_try 1 S k (Int32.ofNat n))) := by
  refine Pm.of fun N => ?_
  obtain ⟨Q, hQ⟩ : ∃ Q : Option Value → FW → Prop, Q = (fun r F' => r = some (.int (m_why 1 S k (Int32.ofNat n))) ∧ FX (fun q => p ≤ q ∧ q ≤ p + 7) F F' ∧ SHR F' p m (m_try 1 S k (Int32.ofNat n))) := ⟨_, rfl⟩
  rw [← hQ]
  refine (show Pv (ab_T (L_X6_attempt Z_X6_whyNot Z_X6_perform)) N 0 [some (.ref p), some (.int 1), some (.int (Int32.ofNat k)), some (.int (Int32.ofNat n)), none] [] F Q from ?_)
  refine Pv.aload rfl rfl ?_
  refine Pv.iload rfl rfl ?_
  refine Pv.iload rfl rfl ?_
  refine Pv.iload rfl rfl ?_
  refine Pv.callVI (as := [.ref p, .int 1, .int (Int32.ofNat k), .int (Int32.ofNat n)]) (rest := []) (z := m_why 1 S k (Int32.ofNat n)) rfl rfl rfl (f_whyNot1 hS hk hn) ?_
  refine Pv.istore (lo' := [some (.ref p), some (.int 1), some (.int (Int32.ofNat k)), some (.int (Int32.ofNat n)), some (.int (m_why 1 S k (Int32.ofNat n)))]) rfl rfl ?_
  refine Pv.iload rfl rfl ?_
  refine Pv.if0 rfl (fun c1 => ?_) (fun c1 => ?_)
  · skip
    replace c1 : decide (m_why 1 S k (Int32.ofNat n) = 0) = false := by simpa using c1
    replace c1 := of_decide_eq_false c1
    refine Pv.iload rfl rfl ?_
    exact Pv.ret rfl (by rw [hQ]; exact ⟨rfl, FX.rf, by unfold m_try; rw [if_neg c1]; exact hS⟩)
  · skip
    replace c1 : decide (m_why 1 S k (Int32.ofNat n) = 0) = true := by simpa using c1
    replace c1 := of_decide_eq_true c1
    refine Pv.aload rfl rfl ?_
    refine Pv.iload rfl rfl ?_
    refine Pv.iload rfl rfl ?_
    refine Pv.iload rfl rfl ?_
    refine Pv.callV (as := [.ref p, .int 1, .int (Int32.ofNat k), .int (Int32.ofNat n)]) (rest := []) rfl rfl rfl (f_perform1 hS hk hn) ?_
    rintro _ G2 ⟨rfl, x3, sr5⟩
    have hx4 := FX.tr (P := fun q => p ≤ q ∧ q ≤ p + 7) FX.rf (x3.wd (fun q (c : p ≤ q ∧ q ≤ p + 7) => (show p ≤ q ∧ q ≤ p + 7 by omega)))
    refine (show Pv _ _ 21 [some (.ref p), some (.int 1), some (.int (Int32.ofNat k)), some (.int (Int32.ofNat n)), some (.int (m_why 1 S k (Int32.ofNat n)))] [] G2 Q from ?_)
    refine Pv.iload rfl rfl ?_
    exact Pv.ret rfl (by rw [hQ]; exact ⟨rfl, hx4, by unfold m_try; rw [if_pos c1]; exact sr5⟩)
set_option maxRecDepth 100000 in
set_option maxHeartbeats 4000000 in
theorem f_attempt2 {F : FW} {p m k n : Nat} {S : Sh} (hS : SHR F p m S) (hk : k < 12) (hn : n < 1000) : Pm Z_X6_attempt [.ref p, .int 2, .int (Int32.ofNat k), .int (Int32.ofNat n)] F (fun r F' => r = some (.int (m_why 2 S k (Int32.ofNat n))) ∧ FX (fun q => p ≤ q ∧ q ≤ p + 7) F F' ∧ SHR F' p m (m_try 2 S k (Int32.ofNat n))) := by
  refine Pm.of fun N => ?_
  obtain ⟨Q, hQ⟩ : ∃ Q : Option Value → FW → Prop, Q = (fun r F' => r = some (.int (m_why 2 S k (Int32.ofNat n))) ∧ FX (fun q => p ≤ q ∧ q ≤ p + 7) F F' ∧ SHR F' p m (m_try 2 S k (Int32.ofNat n))) := ⟨_, rfl⟩
  rw [← hQ]
  refine (show Pv (ab_T (L_X6_attempt Z_X6_whyNot Z_X6_perform)) N 0 [some (.ref p), some (.int 2), some (.int (Int32.ofNat k)), some (.int (Int32.ofNat n)), none] [] F Q from ?_)
  refine Pv.aload rfl rfl ?_
  refine Pv.iload rfl rfl ?_
  refine Pv.iload rfl rfl ?_
  refine Pv.iload rfl rfl ?_
  refine Pv.callVI (as := [.ref p, .int 2, .int (Int32.ofNat k), .int (Int32.ofNat n)]) (rest := []) (z := m_why 2 S k (Int32.ofNat n)) rfl rfl rfl (f_whyNot2 hS hk hn) ?_
  refine Pv.istore (lo' := [some (.ref p), some (.int 2), some (.int (Int32.ofNat k)), some (.int (Int32.ofNat n)), some (.int (m_why 2 S k (Int32.ofNat n)))]) rfl rfl ?_
  refine Pv.iload rfl rfl ?_
  refine Pv.if0 rfl (fun c1 => ?_) (fun c1 => ?_)
  · skip
    replace c1 : decide (m_why 2 S k (Int32.ofNat n) = 0) = false := by simpa using c1
    replace c1 := of_decide_eq_false c1
    refine Pv.iload rfl rfl ?_
    exact Pv.ret rfl (by rw [hQ]; exact ⟨rfl, FX.rf, by unfold m_try; rw [if_neg c1]; exact hS⟩)
  · skip
    replace c1 : decide (m_why 2 S k (Int32.ofNat n) = 0) = true := by simpa using c1
    replace c1 := of_decide_eq_true c1
    refine Pv.aload rfl rfl ?_
    refine Pv.iload rfl rfl ?_
    refine Pv.iload rfl rfl ?_
    refine Pv.iload rfl rfl ?_
    refine Pv.callV (as := [.ref p, .int 2, .int (Int32.ofNat k), .int (Int32.ofNat n)]) (rest := []) rfl rfl rfl (f_perform2 hS hk hn) ?_
    rintro _ G2 ⟨rfl, x3, sr5⟩
    have hx4 := FX.tr (P := fun q => p ≤ q ∧ q ≤ p + 7) FX.rf (x3.wd (fun q (c : p ≤ q ∧ q ≤ p + 7) => (show p ≤ q ∧ q ≤ p + 7 by omega)))
    refine (show Pv _ _ 21 [some (.ref p), some (.int 2), some (.int (Int32.ofNat k)), some (.int (Int32.ofNat n)), some (.int (m_why 2 S k (Int32.ofNat n)))] [] G2 Q from ?_)
    refine Pv.iload rfl rfl ?_
    exact Pv.ret rfl (by rw [hQ]; exact ⟨rfl, hx4, by unfold m_try; rw [if_pos c1]; exact sr5⟩)
set_option maxRecDepth 100000 in
set_option maxHeartbeats 4000000 in
theorem f_attempt3 {F : FW} {p m k : Nat} {S : Sh} (hS : SHR F p m S) (hk : k < m) (hm : m ≤ 8) : Pm Z_X6_attempt [.ref p, .int 3, .int (Int32.ofNat k), .int 0] F (fun r F' => r = some (.int (m_why 3 S k 0)) ∧ FX (fun q => p ≤ q ∧ q ≤ p + 7) F F' ∧ SHR F' p m (m_try 3 S k 0)) := by
  refine Pm.of fun N => ?_
  obtain ⟨Q, hQ⟩ : ∃ Q : Option Value → FW → Prop, Q = (fun r F' => r = some (.int (m_why 3 S k 0)) ∧ FX (fun q => p ≤ q ∧ q ≤ p + 7) F F' ∧ SHR F' p m (m_try 3 S k 0)) := ⟨_, rfl⟩
  rw [← hQ]
  refine (show Pv (ab_T (L_X6_attempt Z_X6_whyNot Z_X6_perform)) N 0 [some (.ref p), some (.int 3), some (.int (Int32.ofNat k)), some (.int 0), none] [] F Q from ?_)
  refine Pv.aload rfl rfl ?_
  refine Pv.iload rfl rfl ?_
  refine Pv.iload rfl rfl ?_
  refine Pv.iload rfl rfl ?_
  refine Pv.callVI (as := [.ref p, .int 3, .int (Int32.ofNat k), .int 0]) (rest := []) (z := m_why 3 S k 0) rfl rfl rfl (f_whyNot3 hS hk hm) ?_
  refine Pv.istore (lo' := [some (.ref p), some (.int 3), some (.int (Int32.ofNat k)), some (.int 0), some (.int (m_why 3 S k 0))]) rfl rfl ?_
  refine Pv.iload rfl rfl ?_
  refine Pv.if0 rfl (fun c1 => ?_) (fun c1 => ?_)
  · skip
    replace c1 : decide (m_why 3 S k 0 = 0) = false := by simpa using c1
    replace c1 := of_decide_eq_false c1
    refine Pv.iload rfl rfl ?_
    exact Pv.ret rfl (by rw [hQ]; exact ⟨rfl, FX.rf, by unfold m_try; rw [if_neg c1]; exact hS⟩)
  · skip
    replace c1 : decide (m_why 3 S k 0 = 0) = true := by simpa using c1
    replace c1 := of_decide_eq_true c1
    refine Pv.aload rfl rfl ?_
    refine Pv.iload rfl rfl ?_
    refine Pv.iload rfl rfl ?_
    refine Pv.iload rfl rfl ?_
    refine Pv.callV (as := [.ref p, .int 3, .int (Int32.ofNat k), .int 0]) (rest := []) rfl rfl rfl (f_perform3 hS hk hm) ?_
    rintro _ G2 ⟨rfl, x3, sr5⟩
    have hx4 := FX.tr (P := fun q => p ≤ q ∧ q ≤ p + 7) FX.rf (x3.wd (fun q (c : p ≤ q ∧ q ≤ p + 7) => (show p ≤ q ∧ q ≤ p + 7 by omega)))
    refine (show Pv _ _ 21 [some (.ref p), some (.int 3), some (.int (Int32.ofNat k)), some (.int 0), some (.int (m_why 3 S k 0))] [] G2 Q from ?_)
    refine Pv.iload rfl rfl ?_
    exact Pv.ret rfl (by rw [hQ]; exact ⟨rfl, hx4, by unfold m_try; rw [if_pos c1]; exact sr5⟩)
set_option maxRecDepth 100000 in
set_option maxHeartbeats 4000000 in
theorem f_drawOf {F : FW} {x : Int32} {n : Nat} (hx : F.1 40 0 = x) (hn : 0 < n) (hn2 : n < 1000) : Pm Z_X0_drawOf [.ref 40, .int (Int32.ofNat n)] F (fun r F' => r = some (.int (Int32.ofNat (dr (m_nx x) n))) ∧ F' = fp F 40 0 (m_nx x)) := by
  refine Pm.of fun N => ?_
  obtain ⟨Q, hQ⟩ : ∃ Q : Option Value → FW → Prop, Q = (fun r F' => r = some (.int (Int32.ofNat (dr (m_nx x) n))) ∧ F' = fp F 40 0 (m_nx x)) := ⟨_, rfl⟩
  rw [← hQ]
  refine (show Pv (ab_T L_X0_drawOf) N 0 [some (.ref 40), some (.int (Int32.ofNat n))] [] F Q from ?_)
  refine Pv.aload rfl rfl ?_
  refine Pv.aload rfl rfl ?_
  refine Pv.getI (z := x) rfl rfl (hx) ?_
  refine Pv.lit rfl ?_
  refine Pv.bin (z := x * 1103515245) rfl (rfl) ?_
  refine Pv.lit rfl ?_
  refine Pv.bin (z := m_nx x) rfl (rfl) ?_
  refine Pv.putI rfl rfl ?_
  refine Pv.iload rfl rfl ?_
  refine Pv.if0 rfl (fun c1 => ?_) (fun c1 => ?_)
  · skip
    replace c1 := (i_le (a := n) (b := 0) (by omega) (by omega)).mp (of_decide_eq_true c1)
    omega
  · skip
    replace c1 := mt (i_le (a := n) (b := 0) (by omega) (by omega)).mpr (of_decide_eq_false c1)
    refine Pv.aload rfl rfl ?_
    refine Pv.getI (z := m_nx x) rfl rfl (fp_eq) ?_
    refine Pv.lit rfl ?_
    refine Pv.bin (z := m_ush (m_nx x)) rfl (rfl) ?_
    refine Pv.iload rfl rfl ?_
    refine Pv.irem (z := Int32.ofNat (dr (m_nx x) n)) rfl (dr_rem hn hn2) ?_
    refine Pv.goto rfl ?_
    exact Pv.ret rfl (by rw [hQ]; exact ⟨rfl, rfl⟩)
end
-- 63.b55a.att.lean.txt
section
theorem f_attempt {F : FW} {p m k n d : Nat} {S : Sh} (hS : SHR F p m S) (hk : k < 12) (hn : n < 1000) (hd : d < 3) : Pm Z_X6_attempt [.ref p, .int (Int32.ofNat d), .int (Int32.ofNat k), .int (Int32.ofNat n)] F (fun r F' => r = some (.int (m_why d S k (Int32.ofNat n))) ∧ FX (fun q => p ≤ q ∧ q ≤ p + 7) F F' ∧ SHR F' p m (m_try d S k (Int32.ofNat n))) :=
  match d, hd with
  | 0, _ => f_attempt0 hS hk hn
  | 1, _ => f_attempt1 hS hk hn
  | 2, _ => f_attempt2 hS hk hn
  | d + 3, h => absurd h (by omega)
end
-- 63.b56.ou.lean.txt
section
set_option maxRecDepth 100000 in
set_option maxHeartbeats 4000000 in
theorem o_movePrices {F : FW} {t : Nat} {T : St} {S : Sh} {f : Nat → Int32} (hG : GW F) (ht : F.2.1 0 13 = .ref t) (hT : TR F t T) (hA : SHR F 20 (t_m T) S) (hf : AR F 42 12 f) (j0 : t = 45 ∨ t = 53) : Pm Z_X10_movePrices [.ref 0] F (fun r F' => r = some (.int (b2i (m_pM T S f (2 * t_g T)))) ∧ FX (fun q => q = 42) F F' ∧ AR F' 42 12 (m_pI T S f (2 * t_g T))) := by
  refine Pm.of fun N => ?_
  obtain ⟨Q, hQ⟩ : ∃ Q : Option Value → FW → Prop, Q = (fun r F' => r = some (.int (b2i (m_pM T S f (2 * t_g T)))) ∧ FX (fun q => q = 42) F F' ∧ AR F' 42 12 (m_pI T S f (2 * t_g T))) := ⟨_, rfl⟩
  rw [← hQ]
  have b5 := hT.gb
  refine (show Pv (ab_T (L_X10_movePrices Z_X7_amountOf)) N 0 [some (.ref 0), none, none, none] [] F Q from ?_)
  refine Pv.lit rfl ?_
  refine Pv.istore (lo' := [some (.ref 0), some (.int 0), none, none]) rfl rfl ?_
  refine Pv.lit rfl ?_
  refine Pv.istore (lo' := [some (.ref 0), some (.int 0), some (.int 0), none]) rfl rfl ?_
  refine Pv.lp (ι := Nat × Int32 × FW × (Option Value)) (lof := fun ⟨k, b, G, o1⟩ => [some (.ref 0), some (.int b), some (.int (Int32.ofNat k)), o1]) (Ff := fun ⟨k, b, G, o1⟩ => G) (P := fun ⟨k, b, G, o1⟩ => (k ≤ 2 * t_g T) ∧ (FX (fun q => q = 42) F G) ∧ (AR G 42 12 (m_pI T S f k)) ∧ (b = b2i (m_pM T S f k))) ?_ (0, 0, F, none) (⟨Nat.zero_le _, FX.rf, hf, rfl⟩)
  rintro N2 hN3 ⟨k, b, G, o1⟩ hi4 ih5
  refine (show Pv _ _ 4 [some (.ref 0), some (.int b), some (.int (Int32.ofNat k)), o1] [] G Q from ?_)
  obtain ⟨hk, hxG, hP, hm⟩ := hi4
  have hx6 := hT.fx (P := fun q => q = 42) hxG (fun q h1 h2 (c : q = 42) => by omega)
  have hx7 := hA.fx (P := fun q => q = 42) hxG (fun q h1 h2 (c : q = 42) => by omega)
  have hx8 := hG.fx (P := fun q => q = 42) hxG
  have hr0 : G.2.1 0 13 = .ref t := by rw [hxG.2.2.1]; exact ht
  refine Pv.iloadS rfl rfl ?_
  refine Pv.lit rfl ?_
  refine Pv.aload rfl rfl ?_
  refine Pv.getR (v := .ref t) rfl rfl (hr0) ?_
  refine Pv.getI (z := Int32.ofNat (t_g T)) rfl rfl (hx6.g) ?_
  refine Pv.bin (z := Int32.ofNat (2 * (t_g T))) rfl (i_mul 2 (t_g T)) ?_
  refine Pv.icmp rfl (fun c9 => ?_) (fun c9 => ?_)
  · skip
    replace c9 := (i_le (a := 2 * (t_g T)) (b := k) (by omega) (by omega)).mp (of_decide_eq_true c9)
    refine Pv.iload rfl rfl ?_
    exact Pv.zret rfl (by rw [hQ]; exact ⟨by rw [hm, show k = 2 * t_g T by omega], hxG, hP.eq (congrArg (m_pI T S f) (by omega))⟩)
  · skip
    replace c9 := mt (i_le (a := 2 * (t_g T)) (b := k) (by omega) (by omega)).mpr (of_decide_eq_false c9)
    refine Pv.aload rfl rfl ?_
    refine Pv.getR (v := .ref t) rfl rfl (hr0) ?_
    refine Pv.lit rfl ?_
    refine Pv.iload rfl rfl ?_
    refine Pv.callVI (as := [.ref t, .int 1, .int (Int32.ofNat k)]) (rest := []) (z := t_a T (1 * 12 + k)) rfl rfl rfl (f_amountOf (s := 1) (k := k) hx6 (by omega)) ?_
    refine Pv.istore (lo' := [some (.ref 0), some (.int b), some (.int (Int32.ofNat k)), some (.int (t_a T (1 * 12 + k)))]) rfl rfl ?_
    refine Pv.aload rfl rfl ?_
    refine Pv.getR (v := .ref 20) rfl rfl (GW.at (a := 0) (k := 5) (b := 20) hx8 (by decide)) ?_
    refine Pv.getR (v := .ref 21) rfl rfl (hx7.o 0 (by decide)) ?_
    refine Pv.iload rfl rfl ?_
    refine Pv.ald (z := h_s S k) rfl (by rw [i_toNat (by omega)]; exact hx7.s _ (by omega)) ?_
    refine Pv.iload rfl rfl ?_
    refine Pv.icmp rfl (fun c10 => ?_) (fun c10 => ?_)
    · skip
      replace c10 := of_decide_eq_true c10
      refine Pv.aload rfl rfl ?_
      refine Pv.getR (v := .ref 20) rfl rfl (GW.at (a := 0) (k := 5) (b := 20) hx8 (by decide)) ?_
      refine Pv.getR (v := .ref 21) rfl rfl (hx7.o 0 (by decide)) ?_
      refine Pv.iload rfl rfl ?_
      refine Pv.ald (z := h_s S k) rfl (by rw [i_toNat (by omega)]; exact hx7.s _ (by omega)) ?_
      refine Pv.iload rfl rfl ?_
      refine Pv.icmp rfl (fun c11 => ?_) (fun c11 => ?_)
      · skip
        replace c11 := of_decide_eq_true c11
        refine Pv.iinc (y := Int32.ofNat (k + 1)) (lo' := [some (.ref 0), some (.int b), some (.int (Int32.ofNat (k + 1))), some (.int (t_a T (1 * 12 + k)))]) rfl rfl (i_add k 1) rfl ?_
        refine Pv.goto rfl ?_
        exact ih5 (k + 1, b, G, (some (.int (t_a T (1 * 12 + k))))) (⟨by omega, hxG, (hP).eq (((if_neg (Int32.not_lt.mpr c10)).trans (if_neg (fun q => Int32.not_le.mpr q.1 c11))).symm), by show _ = b2i (m_pM T S f k || (decide (h_s S k < t_a T (1 * 12 + k)) || (decide (t_a T (1 * 12 + k) < h_s S k) && decide (0 < m_pI T S f k k)))); rw [decide_eq_false (Int32.not_lt.mpr c10), decide_eq_false (Int32.not_lt.mpr c11), Bool.false_and, Bool.or_false, Bool.or_false]; exact hm⟩)
      · skip
        replace c11 := of_decide_eq_false c11
        refine Pv.aload rfl rfl ?_
        refine Pv.getR (v := .ref 42) rfl rfl (GW.at (a := 0) (k := 10) (b := 42) hx8 (by decide)) ?_
        refine Pv.iload rfl rfl ?_
        refine Pv.ald (z := (m_pI T S f k) k) rfl (by rw [i_toNat (by omega)]; exact hP _ (by omega)) ?_
        refine Pv.if0 rfl (fun c12 => ?_) (fun c12 => ?_)
        · skip
          replace c12 := of_decide_eq_true c12
          refine Pv.iinc (y := Int32.ofNat (k + 1)) (lo' := [some (.ref 0), some (.int b), some (.int (Int32.ofNat (k + 1))), some (.int (t_a T (1 * 12 + k)))]) rfl rfl (i_add k 1) rfl ?_
          refine Pv.goto rfl ?_
          exact ih5 (k + 1, b, G, (some (.int (t_a T (1 * 12 + k))))) (⟨by omega, hxG, (hP).eq (((if_neg (Int32.not_lt.mpr c10)).trans (if_neg (fun q => Int32.not_le.mpr q.2 c12))).symm), by show _ = b2i (m_pM T S f k || (decide (h_s S k < t_a T (1 * 12 + k)) || (decide (t_a T (1 * 12 + k) < h_s S k) && decide (0 < m_pI T S f k k)))); rw [decide_eq_false (Int32.not_lt.mpr c10), decide_eq_false (Int32.not_lt.mpr c12), Bool.and_false, Bool.or_false, Bool.or_false]; exact hm⟩)
        · skip
          replace c12 := of_decide_eq_false c12
          refine Pv.aload rfl rfl ?_
          refine Pv.getR (v := .ref 42) rfl rfl (GW.at (a := 0) (k := 10) (b := 42) hx8 (by decide)) ?_
          refine Pv.iload rfl rfl ?_
          refine Pv.dup2 rfl ?_
          refine Pv.ald (z := (m_pI T S f k) k) rfl (by rw [i_toNat (by omega)]; exact hP _ (by omega)) ?_
          refine Pv.lit rfl ?_
          refine Pv.bin (z := ((m_pI T S f k) k) - 1) rfl (rfl) ?_
          refine Pv.astk (k := k) (z := ((m_pI T S f k) k) - 1) rfl (i_toNat (by omega)) (rfl) ?_
          refine Pv.lit rfl ?_
          refine Pv.istore (lo' := [some (.ref 0), some (.int 1), some (.int (Int32.ofNat k)), some (.int (t_a T (1 * 12 + k)))]) rfl rfl ?_
          refine Pv.iinc (y := Int32.ofNat (k + 1)) (lo' := [some (.ref 0), some (.int 1), some (.int (Int32.ofNat (k + 1))), some (.int (t_a T (1 * 12 + k)))]) rfl rfl (i_add k 1) rfl ?_
          refine Pv.goto rfl ?_
          exact ih5 (k + 1, 1, (fp G 42 k (((m_pI T S f k) k) - 1)), (some (.int (t_a T (1 * 12 + k))))) (⟨by omega, (hxG).fp (show 42 = 42 by omega), ((hP).up).eq (((if_neg (Int32.not_lt.mpr c10)).trans (if_pos ⟨Int32.not_le.mp c11, Int32.not_le.mp c12⟩)).symm), by show _ = b2i (m_pM T S f k || (decide (h_s S k < t_a T (1 * 12 + k)) || (decide (t_a T (1 * 12 + k) < h_s S k) && decide (0 < m_pI T S f k k)))); rw [decide_eq_true (Int32.not_le.mp c11), decide_eq_true (Int32.not_le.mp c12), Bool.and_true, Bool.or_true, Bool.or_true]; rfl⟩)
    · skip
      replace c10 := of_decide_eq_false c10
      refine Pv.aload rfl rfl ?_
      refine Pv.getR (v := .ref 42) rfl rfl (GW.at (a := 0) (k := 10) (b := 42) hx8 (by decide)) ?_
      refine Pv.iload rfl rfl ?_
      refine Pv.dup2 rfl ?_
      refine Pv.ald (z := (m_pI T S f k) k) rfl (by rw [i_toNat (by omega)]; exact hP _ (by omega)) ?_
      refine Pv.lit rfl ?_
      refine Pv.bin (z := ((m_pI T S f k) k) + 1) rfl (rfl) ?_
      refine Pv.astk (k := k) (z := ((m_pI T S f k) k) + 1) rfl (i_toNat (by omega)) (rfl) ?_
      refine Pv.lit rfl ?_
      refine Pv.istore (lo' := [some (.ref 0), some (.int 1), some (.int (Int32.ofNat k)), some (.int (t_a T (1 * 12 + k)))]) rfl rfl ?_
      refine Pv.goto rfl ?_
      refine Pv.iinc (y := Int32.ofNat (k + 1)) (lo' := [some (.ref 0), some (.int 1), some (.int (Int32.ofNat (k + 1))), some (.int (t_a T (1 * 12 + k)))]) rfl rfl (i_add k 1) rfl ?_
      refine Pv.goto rfl ?_
      exact ih5 (k + 1, 1, (fp G 42 k (((m_pI T S f k) k) + 1)), (some (.int (t_a T (1 * 12 + k))))) (⟨by omega, (hxG).fp (show 42 = 42 by omega), ((hP).up).eq ((if_pos (Int32.not_le.mp c10)).symm), by show _ = b2i (m_pM T S f k || (decide (h_s S k < t_a T (1 * 12 + k)) || (decide (t_a T (1 * 12 + k) < h_s S k) && decide (0 < m_pI T S f k k)))); rw [decide_eq_true (Int32.not_le.mp c10), Bool.true_or, Bool.or_true]; rfl⟩)
set_option maxRecDepth 100000 in
set_option maxHeartbeats 4000000 in
theorem o_prices {F : FW} {t : Nat} {T : St} {S : Sh} (hG : GW F) (ht : F.2.1 0 13 = .ref t) (hT : TR F t T) (hS : SHR F 12 (t_m T) S) (j0 : t = 45 ∨ t = 53) : Pm Z_X10_prices [.ref 0] F (fun r F' => r = some (.int (Int32.ofNat (m_rounds T S))) ∧ FX (fun q => q = 0 ∨ (7 ≤ q ∧ q ≤ 9) ∨ (20 ≤ q ∧ q ≤ 27) ∨ q = 42) F F' ∧ (∀ k, k ≠ 17 → F'.1 0 k = F.1 0 k) ∧ F'.1 0 17 = Int32.ofNat (t_g T) ∧ AR F' 42 12 (m_row T S (m_rounds T S))) := by
  refine Pm.of fun N => ?_
  obtain ⟨Q, hQ⟩ : ∃ Q : Option Value → FW → Prop, Q = (fun r F' => r = some (.int (Int32.ofNat (m_rounds T S))) ∧ FX (fun q => q = 0 ∨ (7 ≤ q ∧ q ≤ 9) ∨ (20 ≤ q ∧ q ≤ 27) ∨ q = 42) F F' ∧ (∀ k, k ≠ 17 → F'.1 0 k = F.1 0 k) ∧ F'.1 0 17 = Int32.ofNat (t_g T) ∧ AR F' 42 12 (m_row T S (m_rounds T S))) := ⟨_, rfl⟩
  rw [← hQ]
  have b3 := hT.mb
  have b4 := hT.nb
  have b5 := hT.gb
  have b6 := m_from_lt S
  have b7 := hS.db
  refine (show Pv (ab_T (L_X10_prices Z_X6_copyFrom Z_X10_movePrices Z_X1_passDays)) N 0 [some (.ref 0), none] [] F Q from ?_)
  refine Pv.aload rfl rfl ?_
  refine Pv.getR (v := .ref 20) rfl rfl (GW.at (a := 0) (k := 5) (b := 20) hG (by decide)) ?_
  refine Pv.aload rfl rfl ?_
  refine Pv.getR (v := .ref 12) rfl rfl (GW.at (a := 0) (k := 4) (b := 12) hG (by decide)) ?_
  refine Pv.callV (as := [.ref 20, .ref 12]) (rest := []) rfl rfl rfl (f_shCopy (GW.o20 hG) hS b3 (by omega)) ?_
  rintro _ G1 ⟨rfl, x2, sr4⟩
  have hx3 := FX.tr (P := fun q => q = 0 ∨ (7 ≤ q ∧ q ≤ 9) ∨ (20 ≤ q ∧ q ≤ 27) ∨ q = 42) FX.rf (x2.wd (fun q (c : 20 ≤ q ∧ q ≤ 20 + 7) => (show q = 0 ∨ (7 ≤ q ∧ q ≤ 9) ∨ (20 ≤ q ∧ q ≤ 27) ∨ q = 42 by omega)))
  have hx5 := hT.fx (P := fun q => 20 ≤ q ∧ q ≤ 20 + 7) x2 (fun q h1 h2 (c : 20 ≤ q ∧ q ≤ 20 + 7) => by omega)
  have hx6 := hS.fx (P := fun q => 20 ≤ q ∧ q ≤ 20 + 7) x2 (fun q h1 h2 (c : 20 ≤ q ∧ q ≤ 20 + 7) => by omega)
  have hx7 := hG.fx (P := fun q => 20 ≤ q ∧ q ≤ 20 + 7) x2
  have hr8 : G1.2.1 0 13 = .ref t := by rw [x2.2.2.1]; exact ht
  refine (show Pv _ _ 11 [some (.ref 0), none] [] G1 Q from ?_)
  refine Pv.aload rfl rfl ?_
  refine Pv.aload rfl rfl ?_
  refine Pv.getR (v := .ref t) rfl rfl (hr8) ?_
  refine Pv.getI (z := Int32.ofNat (t_g T)) rfl rfl (hx5.g) ?_
  refine Pv.putI rfl rfl ?_
  refine Pv.lit rfl ?_
  refine Pv.istore (lo' := [some (.ref 0), some (.int 0)]) rfl rfl ?_
  refine Pv.lp (ι := Nat × FW) (lof := fun ⟨k, G⟩ => [some (.ref 0), some (.int (Int32.ofNat k))]) (Ff := fun ⟨k, G⟩ => G) (P := fun ⟨k, G⟩ => FX (fun q => q = 0 ∨ (7 ≤ q ∧ q ≤ 9) ∨ (20 ≤ q ∧ q ≤ 27) ∨ q = 42) F G ∧ (k ≤ 12) ∧ (G.1 0 17 = Int32.ofNat (t_g T)) ∧ (∀ k, k ≠ 17 → G.1 0 k = F.1 0 k) ∧ (AR G 42 k (fun _ => 5)) ∧ (SHR G 20 (t_m T) S)) ?_ (0, (fp G1 0 17 (Int32.ofNat (t_g T)))) (⟨(hx3).fp (show 0 = 0 ∨ (7 ≤ 0 ∧ 0 ≤ 9) ∨ (20 ≤ 0 ∧ 0 ≤ 27) ∨ 0 = 42 by omega), Nat.zero_le _, fp_eq, fun k hk0 => (fp_ne (Or.inr hk0)).trans (x2.1 0 k (by omega)), AR.z, (sr4.fx (P := fun q => q = 0) (((FX.rf (P := fun q => q = 0))).fp rfl) (fun q h1 h2 (c : q = 0) => by omega))⟩)
  rintro N9 hN10 ⟨k, G⟩ hi11 ih12
  refine (show Pv _ _ 24 [some (.ref 0), some (.int (Int32.ofNat k))] [] G Q from ?_)
  obtain ⟨hxG, hk, h17, h0, h42, hA⟩ := hi11
  have hx13 := hT.fx (P := fun q => q = 0 ∨ (7 ≤ q ∧ q ≤ 9) ∨ (20 ≤ q ∧ q ≤ 27) ∨ q = 42) hxG (fun q h1 h2 (c : q = 0 ∨ (7 ≤ q ∧ q ≤ 9) ∨ (20 ≤ q ∧ q ≤ 27) ∨ q = 42) => by omega)
  have hx14 := hS.fx (P := fun q => q = 0 ∨ (7 ≤ q ∧ q ≤ 9) ∨ (20 ≤ q ∧ q ≤ 27) ∨ q = 42) hxG (fun q h1 h2 (c : q = 0 ∨ (7 ≤ q ∧ q ≤ 9) ∨ (20 ≤ q ∧ q ≤ 27) ∨ q = 42) => by omega)
  have hx15 := hG.fx (P := fun q => q = 0 ∨ (7 ≤ q ∧ q ≤ 9) ∨ (20 ≤ q ∧ q ≤ 27) ∨ q = 42) hxG
  have hx16 : G.2.1 0 13 = .ref t := by rw [hxG.2.2.1]; exact ht
  refine Pv.iloadS rfl rfl ?_
  refine Pv.lit rfl ?_
  refine Pv.icmp rfl (fun c17 => ?_) (fun c17 => ?_)
  · skip
    replace c17 := (i_le (a := 12) (b := k) (by omega) (by omega)).mp (of_decide_eq_true c17)
    refine Pv.lit rfl ?_
    refine Pv.istore (lo' := [some (.ref 0), some (.int 1)]) rfl rfl ?_
    refine Pv.lp (ι := Nat × FW) (lof := fun ⟨k, G2⟩ => [some (.ref 0), some (.int (Int32.ofNat k))]) (Ff := fun ⟨k, G2⟩ => G2) (P := fun ⟨k, G2⟩ => FX (fun q => q = 0 ∨ (7 ≤ q ∧ q ≤ 9) ∨ (20 ≤ q ∧ q ≤ 27) ∨ q = 42) F G2 ∧ (1 ≤ k ∧ k ≤ 60) ∧ (G2.1 0 17 = Int32.ofNat (t_g T)) ∧ (∀ k, k ≠ 17 → G2.1 0 k = F.1 0 k) ∧ (AR G2 42 12 (m_row T S (k - 1))) ∧ (SHR G2 20 (t_m T) (m_days T S (k - 1))) ∧ (m_fst (pRest T S) (k - 1) = none)) ?_ (1, G) (⟨hxG, ⟨Nat.le_refl _, by omega⟩, h17, fun k hk0 => h0 k hk0, (h42).le (by omega), hA, rfl⟩)
    rintro N18 hN19 ⟨k, G2⟩ hi20 ih21
    refine (show Pv _ _ 45 [some (.ref 0), some (.int (Int32.ofNat k))] [] G2 Q from ?_)
    obtain ⟨hxG2, hk, h17, h0, h42, hA, hb⟩ := hi20
    have hx22 := hT.fx (P := fun q => q = 0 ∨ (7 ≤ q ∧ q ≤ 9) ∨ (20 ≤ q ∧ q ≤ 27) ∨ q = 42) hxG2 (fun q h1 h2 (c : q = 0 ∨ (7 ≤ q ∧ q ≤ 9) ∨ (20 ≤ q ∧ q ≤ 27) ∨ q = 42) => by omega)
    have hx23 := hS.fx (P := fun q => q = 0 ∨ (7 ≤ q ∧ q ≤ 9) ∨ (20 ≤ q ∧ q ≤ 27) ∨ q = 42) hxG2 (fun q h1 h2 (c : q = 0 ∨ (7 ≤ q ∧ q ≤ 9) ∨ (20 ≤ q ∧ q ≤ 27) ∨ q = 42) => by omega)
    have hx24 := hG.fx (P := fun q => q = 0 ∨ (7 ≤ q ∧ q ≤ 9) ∨ (20 ≤ q ∧ q ≤ 27) ∨ q = 42) hxG2
    have hx25 : G2.2.1 0 13 = .ref t := by rw [hxG2.2.2.1]; exact ht
    refine Pv.iloadS rfl rfl ?_
    refine Pv.lit rfl ?_
    refine Pv.icmp rfl (fun c26 => ?_) (fun c26 => ?_)
    · skip
      replace c26 := (i_le (a := 60) (b := k) (by omega) (by omega)).mp (of_decide_eq_true c26)
      refine Pv.aload rfl rfl ?_
      refine Pv.callV (as := [.ref 0]) (rest := []) rfl rfl rfl (o_movePrices (f := (m_row T S (k - 1))) hx24 hx25 hx22 hA h42 j0) ?_
      rintro _ G27 ⟨rfl, x28, ar30⟩
      have hx29 := FX.tr (P := fun q => q = 0 ∨ (7 ≤ q ∧ q ≤ 9) ∨ (20 ≤ q ∧ q ≤ 27) ∨ q = 42) hxG2 (x28.wd (fun q (c : q = 42) => (show q = 0 ∨ (7 ≤ q ∧ q ≤ 9) ∨ (20 ≤ q ∧ q ≤ 27) ∨ q = 42 by omega)))
      have hx31 := hx22.fx (P := fun q => q = 42) x28 (fun q h1 h2 (c : q = 42) => by omega)
      have hx32 := hx23.fx (P := fun q => q = 42) x28 (fun q h1 h2 (c : q = 42) => by omega)
      have hx33 := hA.fx (P := fun q => q = 42) x28 (fun q h1 h2 (c : q = 42) => by omega)
      have hx34 := hx24.fx (P := fun q => q = 42) x28
      have hr35 : G27.2.1 0 13 = .ref t := by rw [x28.2.2.1]; exact hx25
      refine (show Pv _ _ 87 [some (.ref 0), some (.int (Int32.ofNat k))] [.int (b2i (m_pM T (m_days T S (k - 1)) (m_row T S (k - 1)) (2 * t_g T)))] G27 Q from ?_)
      refine Pv.pop rfl ?_
      refine Pv.lit rfl ?_
      exact Pv.ret rfl (by rw [hQ]; exact ⟨by rw [rounds_60 (by rw [show 59 = k - 1 by omega]; exact hb)]; rfl, hx29, fun k hk0 => (x28.1 0 k (by omega)).trans (h0 k hk0), (x28.1 0 17 (by omega)).trans h17, by rw [rounds_60 (by rw [show 59 = k - 1 by omega]; exact hb), show 60 = k - 1 + 1 by omega]; exact ar30⟩)
    · skip
      replace c26 := mt (i_le (a := 60) (b := k) (by omega) (by omega)).mpr (of_decide_eq_false c26)
      refine Pv.aload rfl rfl ?_
      refine Pv.callV (as := [.ref 0]) (rest := []) rfl rfl rfl (o_movePrices (f := (m_row T S (k - 1))) hx24 hx25 hx22 hA h42 j0) ?_
      rintro _ G36 ⟨rfl, x37, ar39⟩
      have hx38 := FX.tr (P := fun q => q = 0 ∨ (7 ≤ q ∧ q ≤ 9) ∨ (20 ≤ q ∧ q ≤ 27) ∨ q = 42) hxG2 (x37.wd (fun q (c : q = 42) => (show q = 0 ∨ (7 ≤ q ∧ q ≤ 9) ∨ (20 ≤ q ∧ q ≤ 27) ∨ q = 42 by omega)))
      have hx40 := hx22.fx (P := fun q => q = 42) x37 (fun q h1 h2 (c : q = 42) => by omega)
      have hx41 := hx23.fx (P := fun q => q = 42) x37 (fun q h1 h2 (c : q = 42) => by omega)
      have hx42 := hA.fx (P := fun q => q = 42) x37 (fun q h1 h2 (c : q = 42) => by omega)
      have hx43 := hx24.fx (P := fun q => q = 42) x37
      have hr44 : G36.2.1 0 13 = .ref t := by rw [x37.2.2.1]; exact hx25
      refine (show Pv _ _ 55 [some (.ref 0), some (.int (Int32.ofNat k))] [.int (b2i (m_pM T (m_days T S (k - 1)) (m_row T S (k - 1)) (2 * t_g T)))] G36 Q from ?_)
      refine Pv.if0 rfl (fun c45 => ?_) (fun c45 => ?_)
      · skip
        replace c45 : decide (b2i (m_pM T (m_days T S (k - 1)) (m_row T S (k - 1)) (2 * t_g T)) = 0) = false := by simpa using c45
        replace c45 := of_decide_eq_false c45
        replace c45 := b2n.mp c45
        refine Pv.aload rfl rfl ?_
        refine Pv.getR (v := .ref 7) rfl rfl (GW.at (a := 0) (k := 2) (b := 7) hx43 (by decide)) ?_
        refine Pv.aload rfl rfl ?_
        refine Pv.getR (v := .ref t) rfl rfl (hr44) ?_
        refine Pv.aload rfl rfl ?_
        refine Pv.getR (v := .ref 20) rfl rfl (GW.at (a := 0) (k := 5) (b := 20) hx43 (by decide)) ?_
        refine Pv.lit rfl ?_
        refine Pv.callV (as := [.ref 7, .ref t, .ref 20, .int 1]) (rest := []) rfl rfl rfl (f_passDays (n := 1) hx40 hx42 hx43 (by omega) (by omega) (by omega) (by omega)) ?_
        rintro _ G46 ⟨rfl, x47, sr49, pl50⟩
        have hx48 := FX.tr (P := fun q => q = 0 ∨ (7 ≤ q ∧ q ≤ 9) ∨ (20 ≤ q ∧ q ≤ 27) ∨ q = 42) hx38 (x47.wd (fun q (c : (20 ≤ q ∧ q ≤ 20 + 7) ∨ (7 ≤ q ∧ q ≤ 9)) => (show q = 0 ∨ (7 ≤ q ∧ q ≤ 9) ∨ (20 ≤ q ∧ q ≤ 27) ∨ q = 42 by omega)))
        have hx51 := hx40.fx (P := fun q => (20 ≤ q ∧ q ≤ 20 + 7) ∨ (7 ≤ q ∧ q ≤ 9)) x47 (fun q h1 h2 (c : (20 ≤ q ∧ q ≤ 20 + 7) ∨ (7 ≤ q ∧ q ≤ 9)) => by omega)
        have hx52 := hx41.fx (P := fun q => (20 ≤ q ∧ q ≤ 20 + 7) ∨ (7 ≤ q ∧ q ≤ 9)) x47 (fun q h1 h2 (c : (20 ≤ q ∧ q ≤ 20 + 7) ∨ (7 ≤ q ∧ q ≤ 9)) => by omega)
        have hx53 := hx43.fx (P := fun q => (20 ≤ q ∧ q ≤ 20 + 7) ∨ (7 ≤ q ∧ q ≤ 9)) x47
        have hr54 : G46.2.1 0 13 = .ref t := by rw [x47.2.2.1]; exact hr44
        refine (show Pv _ _ 76 [some (.ref 0), some (.int (Int32.ofNat k))] [.int (Int32.ofNat (h_d (m_days T (m_days T S (k - 1)) 1)) - Int32.ofNat (h_d (m_days T S (k - 1))))] G46 Q from ?_)
        refine Pv.pop rfl ?_
        refine Pv.iinc (y := Int32.ofNat (k + 1)) (lo' := [some (.ref 0), some (.int (Int32.ofNat (k + 1)))]) rfl rfl (i_add k 1) rfl ?_
        refine Pv.goto rfl ?_
        exact ih21 (k + 1, G46) (⟨hx48, ⟨by omega, by omega⟩, (x47.1 0 17 (by omega)).trans ((x37.1 0 17 (by omega)).trans h17), fun k hk0 => (x47.1 0 k (by omega)).trans ((x37.1 0 k (by omega)).trans (h0 k hk0)), by rw [show k + 1 - 1 = k - 1 + 1 by omega]; exact AR.fx (P := fun q => (20 ≤ q ∧ q ≤ 27) ∨ (7 ≤ q ∧ q ≤ 9)) ar39 x47 (by omega), by rw [show k + 1 - 1 = k - 1 + 1 by omega]; exact days_1 sr49, by rw [show k + 1 - 1 = k - 1 + 1 by omega]; exact m_fst_n hb (by unfold pRest; rw [c45]; rfl)⟩)
      · skip
        replace c45 : decide (b2i (m_pM T (m_days T S (k - 1)) (m_row T S (k - 1)) (2 * t_g T)) = 0) = true := by simpa using c45
        replace c45 := of_decide_eq_true c45
        replace c45 := b2z.mp c45
        refine Pv.iload rfl rfl ?_
        exact Pv.ret rfl (by rw [hQ]; exact ⟨by rw [rounds_r (r := k - 1) hb (by unfold pRest; rw [c45]; rfl) (by omega), show k - 1 + 1 = k by omega], hx38, fun k hk0 => (x37.1 0 k (by omega)).trans (h0 k hk0), (x37.1 0 17 (by omega)).trans h17, by rw [rounds_r (r := k - 1) hb (by unfold pRest; rw [c45]; rfl) (by omega)]; exact ar39⟩)
  · skip
    replace c17 := mt (i_le (a := 12) (b := k) (by omega) (by omega)).mpr (of_decide_eq_false c17)
    refine Pv.aload rfl rfl ?_
    refine Pv.getR (v := .ref 42) rfl rfl (GW.at (a := 0) (k := 10) (b := 42) hx15 (by decide)) ?_
    refine Pv.iload rfl rfl ?_
    refine Pv.lit rfl ?_
    refine Pv.astk (k := k) (z := 5) rfl (i_toNat (by omega)) (rfl) ?_
    refine Pv.iinc (y := Int32.ofNat (k + 1)) (lo' := [some (.ref 0), some (.int (Int32.ofNat (k + 1)))]) rfl rfl (i_add k 1) rfl ?_
    refine Pv.goto rfl ?_
    exact ih12 (k + 1, (fp G 42 k 5)) (⟨(hxG).fp (show 42 = 0 ∨ (7 ≤ 42 ∧ 42 ≤ 9) ∨ (20 ≤ 42 ∧ 42 ≤ 27) ∨ 42 = 42 by omega), by omega, (fp_ne (Or.inl (by decide))).trans (h17), fun k hk0 => (fp_ne (Or.inl (by decide))).trans (h0 k hk0), (h42).ext (rfl), (hA.fx (P := fun q => q = 42) (((FX.rf (P := fun q => q = 42))).fp rfl) (fun q h1 h2 (c : q = 42) => by omega))⟩)
set_option maxRecDepth 100000 in
set_option maxHeartbeats 4000000 in
theorem f_drawDeed {F : FW} {t p : Nat} {T : St} {S : Sh} {x : Int32} (hG : GW F) (ht : F.2.1 0 13 = .ref t) (hT : TR F t T) (hS : SHR F p (t_m T) S) (hx : F.1 40 0 = x) (hg : 0 < t_g T) (j1 : t + 7 < p ∨ p + 7 < t) (j2 : t + 7 < 40 ∨ 40 < t) (j3 : p + 7 < 40 ∨ 40 < p) : Pm Z_X10_drawDeed [.ref 0, .ref p] F (fun r F' => r = none ∧ FX (fun q => (p ≤ q ∧ q ≤ p + 7) ∨ q = 40) F F' ∧ SHR F' p (t_m T) (m_dDs T S x) ∧ F'.1 40 0 = m_dDx T S x) := by
  refine Pm.of fun N => ?_
  obtain ⟨Q, hQ⟩ : ∃ Q : Option Value → FW → Prop, Q = (fun r F' => r = none ∧ FX (fun q => (p ≤ q ∧ q ≤ p + 7) ∨ q = 40) F F' ∧ SHR F' p (t_m T) (m_dDs T S x) ∧ F'.1 40 0 = m_dDx T S x) := ⟨_, rfl⟩
  rw [← hQ]
  have b3 := hT.mb
  have b5 := hT.gb
  have d0 : dr (m_nx x) 6 < 6 := Nat.mod_lt _ (by decide)
  refine (show Pv (ab_T (L_X10_drawDeed Z_X0_drawOf Z_X10_slotOf Z_X6_attempt)) N 0 [some (.ref 0), some (.ref p), none, none, none, none] [] F Q from ?_)
  refine Pv.aload rfl rfl ?_
  refine Pv.getR (v := .ref 40) rfl rfl (GW.at (a := 0) (k := 8) (b := 40) hG (by decide)) ?_
  refine Pv.lit rfl ?_
  refine Pv.callVI (as := [.ref 40, .int 6]) (rest := []) (z := Int32.ofNat (dr (m_nx x) 6)) rfl rfl rfl (f_drawOf (x := x) (n := 6) (hx) (by omega) (by omega)) ?_
  refine Pv.istore (lo' := [some (.ref 0), some (.ref p), some (.int (Int32.ofNat (dr (m_nx x) 6))), none, none, none]) rfl rfl ?_
  refine Pv.iload rfl rfl ?_
  refine Pv.lit rfl ?_
  refine Pv.icmp rfl (fun c1 => ?_) (fun c1 => ?_)
  · skip
    replace c1 := (i_le (a := dr (m_nx x) 6) (b := 2) (by omega) (by omega)).mp (of_decide_eq_true c1)
    refine Pv.aload rfl rfl ?_
    refine Pv.getR (v := .ref 40) rfl rfl (GW.at (a := 0) (k := 8) (b := 40) hG (by decide)) ?_
    refine Pv.aload rfl rfl ?_
    refine Pv.getR (v := .ref t) rfl rfl (ht) ?_
    refine Pv.getI (z := Int32.ofNat (t_g T)) rfl rfl ((fp_ne (Or.inl (by omega))).trans (hT.g)) ?_
    refine Pv.callVI (as := [.ref 40, .int (Int32.ofNat (t_g T))]) (rest := []) (z := Int32.ofNat (dr (m_nx (m_nx x)) (t_g T))) rfl rfl rfl (f_drawOf (x := m_nx x) (n := t_g T) (fp_eq) (by omega) (by omega)) ?_
    refine Pv.istore (lo' := [some (.ref 0), some (.ref p), some (.int (Int32.ofNat (dr (m_nx x) 6))), some (.int (Int32.ofNat (dr (m_nx (m_nx x)) (t_g T)))), none, none]) rfl rfl ?_
    refine Pv.aload rfl rfl ?_
    refine Pv.getR (v := .ref 40) rfl rfl (GW.at (a := 0) (k := 8) (b := 40) hG (by decide)) ?_
    refine Pv.lit rfl ?_
    refine Pv.callVI (as := [.ref 40, .int 2]) (rest := []) (z := Int32.ofNat (dr (m_nx (m_nx (m_nx x))) 2)) rfl rfl rfl (f_drawOf (x := m_nx (m_nx x)) (n := 2) (fp_eq) (by omega) (by omega)) ?_
    refine Pv.istore (lo' := [some (.ref 0), some (.ref p), some (.int (Int32.ofNat (dr (m_nx x) 6))), some (.int (Int32.ofNat (dr (m_nx (m_nx x)) (t_g T)))), some (.int (Int32.ofNat (dr (m_nx (m_nx (m_nx x))) 2))), none]) rfl rfl ?_
    refine Pv.aload rfl rfl ?_
    refine Pv.getR (v := .ref 40) rfl rfl (GW.at (a := 0) (k := 8) (b := 40) hG (by decide)) ?_
    refine Pv.lit rfl ?_
    refine Pv.callVI (as := [.ref 40, .int 20]) (rest := []) (z := Int32.ofNat (dr (m_nx (m_nx (m_nx (m_nx x)))) 20)) rfl rfl rfl (f_drawOf (x := m_nx (m_nx (m_nx x))) (n := 20) (fp_eq) (by omega) (by omega)) ?_
    refine Pv.lit rfl ?_
    refine Pv.bin (z := Int32.ofNat ((dr (m_nx (m_nx (m_nx (m_nx x)))) 20) + 1)) rfl (i_add (dr (m_nx (m_nx (m_nx (m_nx x)))) 20) 1) ?_
    refine Pv.istore (lo' := [some (.ref 0), some (.ref p), some (.int (Int32.ofNat (dr (m_nx x) 6))), some (.int (Int32.ofNat (dr (m_nx (m_nx x)) (t_g T)))), some (.int (Int32.ofNat (dr (m_nx (m_nx (m_nx x))) 2))), some (.int (Int32.ofNat ((dr (m_nx (m_nx (m_nx (m_nx x)))) 20) + 1)))]) rfl rfl ?_
    have hs2 : (fp (fp (fp (fp F 40 0 (m_nx x)) 40 0 (m_nx (m_nx x))) 40 0 (m_nx (m_nx (m_nx x)))) 40 0 (m_nx (m_nx (m_nx (m_nx x))))).1 40 0 = m_nx (m_nx (m_nx (m_nx x))) := fp_eq
    have d1 : dr (m_nx (m_nx x)) (t_g T) < t_g T := Nat.mod_lt _ hg
    have d2 : dr (m_nx (m_nx (m_nx x))) 2 < 2 := Nat.mod_lt _ (by decide)
    have d3 : dr (m_nx (m_nx (m_nx (m_nx x)))) 20 < 20 := Nat.mod_lt _ (by decide)
    refine Pv.aload rfl rfl ?_
    refine Pv.iload rfl rfl ?_
    refine Pv.iload rfl rfl ?_
    refine Pv.iload rfl rfl ?_
    refine Pv.callI (as := [.int (Int32.ofNat (dr (m_nx (m_nx x)) (t_g T))), .int (Int32.ofNat (dr (m_nx (m_nx (m_nx x))) 2))]) (rest := [.int (Int32.ofNat (dr (m_nx x) 6)), .ref p]) (z := Int32.ofNat (2 * (dr (m_nx (m_nx x)) (t_g T)) + (dr (m_nx (m_nx (m_nx x))) 2))) rfl rfl rfl (f_slotOf (g := dr (m_nx (m_nx x)) (t_g T)) (s := dr (m_nx (m_nx (m_nx x))) 2)) ?_
    refine Pv.iload rfl rfl ?_
    refine Pv.callV (as := [.ref p, .int (Int32.ofNat (dr (m_nx x) 6)), .int (Int32.ofNat (2 * (dr (m_nx (m_nx x)) (t_g T)) + (dr (m_nx (m_nx (m_nx x))) 2))), .int (Int32.ofNat ((dr (m_nx (m_nx (m_nx (m_nx x)))) 20) + 1))]) (rest := []) rfl rfl rfl (f_attempt (k := 2 * (dr (m_nx (m_nx x)) (t_g T)) + (dr (m_nx (m_nx (m_nx x))) 2)) (n := (dr (m_nx (m_nx (m_nx (m_nx x)))) 20) + 1) (d := dr (m_nx x) 6) (hS.fx (P := fun q => q = 40) ((((((FX.rf (P := fun q => q = 40))).fp rfl).fp rfl).fp rfl).fp rfl) (fun q h1 h2 (c : q = 40) => by omega)) (by omega) (by omega) (by omega)) ?_
    rintro _ G3 ⟨rfl, x4, sr6⟩
    have hx5 := FX.tr (P := fun q => (p ≤ q ∧ q ≤ p + 7) ∨ q = 40) ((((((FX.rf (P := fun q => (p ≤ q ∧ q ≤ p + 7) ∨ q = 40))).fp (show (p ≤ 40 ∧ 40 ≤ p + 7) ∨ 40 = 40 by omega)).fp (show (p ≤ 40 ∧ 40 ≤ p + 7) ∨ 40 = 40 by omega)).fp (show (p ≤ 40 ∧ 40 ≤ p + 7) ∨ 40 = 40 by omega)).fp (show (p ≤ 40 ∧ 40 ≤ p + 7) ∨ 40 = 40 by omega)) (x4.wd (fun q (c : p ≤ q ∧ q ≤ p + 7) => (show (p ≤ q ∧ q ≤ p + 7) ∨ q = 40 by omega)))
    have hx7 := (hT.fx (P := fun q => q = 40) ((((((FX.rf (P := fun q => q = 40))).fp rfl).fp rfl).fp rfl).fp rfl) (fun q h1 h2 (c : q = 40) => by omega)).fx (P := fun q => p ≤ q ∧ q ≤ p + 7) x4 (fun q h1 h2 (c : p ≤ q ∧ q ≤ p + 7) => by omega)
    have hx8 := (hG.fx (P := fun _ => True) ((((((FX.rf (P := fun _ => True))).fp trivial).fp trivial).fp trivial).fp trivial)).fx (P := fun q => p ≤ q ∧ q ≤ p + 7) x4
    have hr9 : G3.2.1 0 13 = .ref t := by rw [x4.2.2.1]; exact ht
    refine (show Pv _ _ 67 [some (.ref 0), some (.ref p), some (.int (Int32.ofNat (dr (m_nx x) 6))), some (.int (Int32.ofNat (dr (m_nx (m_nx x)) (t_g T)))), some (.int (Int32.ofNat (dr (m_nx (m_nx (m_nx x))) 2))), some (.int (Int32.ofNat ((dr (m_nx (m_nx (m_nx (m_nx x)))) 20) + 1)))] [.int (m_why (dr (m_nx x) 6) S (2 * (dr (m_nx (m_nx x)) (t_g T)) + (dr (m_nx (m_nx (m_nx x))) 2)) (Int32.ofNat ((dr (m_nx (m_nx (m_nx (m_nx x)))) 20) + 1)))] G3 Q from ?_)
    refine Pv.pop rfl ?_
    exact Pv.vret rfl (by rw [hQ]; exact ⟨rfl, hx5, by unfold m_dDs; rw [if_pos (by omega)]; exact sr6, by unfold m_dDx; rw [if_pos (by omega)]; exact (x4.1 40 0 (by omega)).trans hs2⟩)
  · skip
    replace c1 := mt (i_le (a := dr (m_nx x) 6) (b := 2) (by omega) (by omega)).mpr (of_decide_eq_false c1)
    exact Pv.vret rfl (by rw [hQ]; exact ⟨rfl, ((FX.rf (P := fun q => (p ≤ q ∧ q ≤ p + 7) ∨ q = 40))).fp (show (p ≤ 40 ∧ 40 ≤ p + 7) ∨ 40 = 40 by omega), by unfold m_dDs; rw [if_neg (by omega)]; exact (hS.fx (P := fun q => q = 40) (((FX.rf (P := fun q => q = 40))).fp rfl) (fun q h1 h2 (c : q = 40) => by omega)), by unfold m_dDx; rw [if_neg (by omega)]; exact fp_eq⟩)
set_option maxRecDepth 100000 in
set_option maxHeartbeats 4000000 in
theorem f_drawDeath {F : FW} {t p : Nat} {T : St} {S : Sh} {x : Int32} (hG : GW F) (ht : F.2.1 0 13 = .ref t) (hT : TR F t T) (hS : SHR F p (t_m T) S) (hx : F.1 40 0 = x) (hg : 0 < t_g T) (j1 : t + 7 < p ∨ p + 7 < t) (j2 : t + 7 < 40 ∨ 40 < t) (j3 : p + 7 < 40 ∨ 40 < p) : Pm Z_X10_drawDeath [.ref 0, .ref p] F (fun r F' => r = none ∧ FX (fun q => (p ≤ q ∧ q ≤ p + 7) ∨ q = 40) F F' ∧ SHR F' p (t_m T) (m_dXs T S x) ∧ F'.1 40 0 = m_dXx T S x) := by
  refine Pm.of fun N => ?_
  obtain ⟨Q, hQ⟩ : ∃ Q : Option Value → FW → Prop, Q = (fun r F' => r = none ∧ FX (fun q => (p ≤ q ∧ q ≤ p + 7) ∨ q = 40) F F' ∧ SHR F' p (t_m T) (m_dXs T S x) ∧ F'.1 40 0 = m_dXx T S x) := ⟨_, rfl⟩
  rw [← hQ]
  have b3 := hT.mb
  have b5 := hT.gb
  have d0 : dr (m_nx x) 90 < 90 := Nat.mod_lt _ (by decide)
  refine (show Pv (ab_T (L_X10_drawDeath Z_X0_drawOf Z_X6_attempt)) N 0 [some (.ref 0), some (.ref p)] [] F Q from ?_)
  refine Pv.aload rfl rfl ?_
  refine Pv.getR (v := .ref 40) rfl rfl (GW.at (a := 0) (k := 8) (b := 40) hG (by decide)) ?_
  refine Pv.lit rfl ?_
  refine Pv.callVI (as := [.ref 40, .int 90]) (rest := []) (z := Int32.ofNat (dr (m_nx x) 90)) rfl rfl rfl (f_drawOf (x := x) (n := 90) (hx) (by omega) (by omega)) ?_
  refine Pv.if0 rfl (fun c1 => ?_) (fun c1 => ?_)
  · skip
    replace c1 : decide (Int32.ofNat (dr (m_nx x) 90) = 0) = false := by simpa using c1
    replace c1 := mt (i_eq (a := dr (m_nx x) 90) (b := 0) (by omega) (by omega)).mpr (of_decide_eq_false c1)
    exact Pv.vret rfl (by rw [hQ]; exact ⟨rfl, ((FX.rf (P := fun q => (p ≤ q ∧ q ≤ p + 7) ∨ q = 40))).fp (show (p ≤ 40 ∧ 40 ≤ p + 7) ∨ 40 = 40 by omega), by unfold m_dXs; rw [if_neg (fun q => c1 q.1)]; exact (hS.fx (P := fun q => q = 40) (((FX.rf (P := fun q => q = 40))).fp rfl) (fun q h1 h2 (c : q = 40) => by omega)), by unfold m_dXx; rw [if_neg (fun q => c1 q.1)]; exact fp_eq⟩)
  · skip
    replace c1 : decide (Int32.ofNat (dr (m_nx x) 90) = 0) = true := by simpa using c1
    replace c1 := (i_eq (a := dr (m_nx x) 90) (b := 0) (by omega) (by omega)).mp (of_decide_eq_true c1)
    refine Pv.aload rfl rfl ?_
    refine Pv.getR (v := .ref t) rfl rfl (ht) ?_
    refine Pv.getI (z := Int32.ofNat (t_m T)) rfl rfl ((fp_ne (Or.inl (by omega))).trans (hT.m)) ?_
    refine Pv.if0 rfl (fun c2 => ?_) (fun c2 => ?_)
    · skip
      replace c2 := (i_le (a := t_m T) (b := 0) (by omega) (by omega)).mp (of_decide_eq_true c2)
      exact Pv.vret rfl (by rw [hQ]; exact ⟨rfl, ((FX.rf (P := fun q => (p ≤ q ∧ q ≤ p + 7) ∨ q = 40))).fp (show (p ≤ 40 ∧ 40 ≤ p + 7) ∨ 40 = 40 by omega), by unfold m_dXs; rw [if_neg (fun q => absurd q.2 (by omega))]; exact (hS.fx (P := fun q => q = 40) (((FX.rf (P := fun q => q = 40))).fp rfl) (fun q h1 h2 (c : q = 40) => by omega)), by unfold m_dXx; rw [if_neg (fun q => absurd q.2 (by omega))]; exact fp_eq⟩)
    · skip
      replace c2 := mt (i_le (a := t_m T) (b := 0) (by omega) (by omega)).mpr (of_decide_eq_false c2)
      refine Pv.aload rfl rfl ?_
      refine Pv.lit rfl ?_
      refine Pv.aload rfl rfl ?_
      refine Pv.getR (v := .ref 40) rfl rfl (GW.at (a := 0) (k := 8) (b := 40) hG (by decide)) ?_
      refine Pv.aload rfl rfl ?_
      refine Pv.getR (v := .ref t) rfl rfl (ht) ?_
      refine Pv.getI (z := Int32.ofNat (t_m T)) rfl rfl ((fp_ne (Or.inl (by omega))).trans (hT.m)) ?_
      refine Pv.callVI (as := [.ref 40, .int (Int32.ofNat (t_m T))]) (rest := [.int 3, .ref p]) (z := Int32.ofNat (dr (m_nx (m_nx x)) (t_m T))) rfl rfl rfl (f_drawOf (x := m_nx x) (n := t_m T) (fp_eq) (by omega) (by omega)) ?_
      refine Pv.lit rfl ?_
      have hs3 : (fp (fp F 40 0 (m_nx x)) 40 0 (m_nx (m_nx x))).1 40 0 = m_nx (m_nx x) := fp_eq
      have d1 : dr (m_nx (m_nx x)) (t_m T) < t_m T := Nat.mod_lt _ (by omega)
      refine Pv.callV (as := [.ref p, .int 3, .int (Int32.ofNat (dr (m_nx (m_nx x)) (t_m T))), .int 0]) (rest := []) rfl rfl rfl (f_attempt3 (k := dr (m_nx (m_nx x)) (t_m T)) (hS.fx (P := fun q => q = 40) ((((FX.rf (P := fun q => q = 40))).fp rfl).fp rfl) (fun q h1 h2 (c : q = 40) => by omega)) (by omega) b3) ?_
      rintro _ G4 ⟨rfl, x5, sr7⟩
      have hx6 := FX.tr (P := fun q => (p ≤ q ∧ q ≤ p + 7) ∨ q = 40) ((((FX.rf (P := fun q => (p ≤ q ∧ q ≤ p + 7) ∨ q = 40))).fp (show (p ≤ 40 ∧ 40 ≤ p + 7) ∨ 40 = 40 by omega)).fp (show (p ≤ 40 ∧ 40 ≤ p + 7) ∨ 40 = 40 by omega)) (x5.wd (fun q (c : p ≤ q ∧ q ≤ p + 7) => (show (p ≤ q ∧ q ≤ p + 7) ∨ q = 40 by omega)))
      have hx8 := (hT.fx (P := fun q => q = 40) ((((FX.rf (P := fun q => q = 40))).fp rfl).fp rfl) (fun q h1 h2 (c : q = 40) => by omega)).fx (P := fun q => p ≤ q ∧ q ≤ p + 7) x5 (fun q h1 h2 (c : p ≤ q ∧ q ≤ p + 7) => by omega)
      have hx9 := (hG.fx (P := fun _ => True) ((((FX.rf (P := fun _ => True))).fp trivial).fp trivial)).fx (P := fun q => p ≤ q ∧ q ≤ p + 7) x5
      have hr10 : G4.2.1 0 13 = .ref t := by rw [x5.2.2.1]; exact ht
      refine (show Pv _ _ 42 [some (.ref 0), some (.ref p)] [.int (m_why 3 S (dr (m_nx (m_nx x)) (t_m T)) 0)] G4 Q from ?_)
      refine Pv.pop rfl ?_
      exact Pv.vret rfl (by rw [hQ]; exact ⟨rfl, hx6, by unfold m_dXs; rw [if_pos ⟨c1, by omega⟩]; exact sr7, by unfold m_dXx; rw [if_pos ⟨c1, by omega⟩]; exact (x5.1 40 0 (by omega)).trans hs3⟩)
set_option maxRecDepth 100000 in
set_option maxHeartbeats 4000000 in
theorem f_drawDays {F : FW} {t p n : Nat} {T : St} {S : Sh} {x : Int32} (hG : GW F) (ht : F.2.1 0 13 = .ref t) (hT : TR F t T) (hS : SHR F p (t_m T) S) (hg : 0 < t_g T) (hn : n < 1000) (j1 : t + 7 < p ∨ p + 7 < t) (j2 : t + 7 < 40 ∨ 40 < t) (j3 : p + 7 < 40 ∨ 40 < p) (j4 : p + 7 < 7 ∨ 9 < p) (j5 : t + 7 < 7 ∨ 9 < t) : Pm Z_X10_drawDays [.ref 0, .ref p, .int (Int32.ofNat n), .int x] F (fun r F' => r = some (.int (Int32.ofNat (h_d (m_drawn T (S, x) n).1) - Int32.ofNat (h_d S))) ∧ FX (fun q => (p ≤ q ∧ q ≤ p + 7) ∨ (7 ≤ q ∧ q ≤ 9) ∨ q = 40) F F' ∧ SHR F' p (t_m T) (m_drawn T (S, x) n).1 ∧ F'.1 40 0 = (m_drawn T (S, x) n).2) := by
  refine Pm.of fun N => ?_
  obtain ⟨Q, hQ⟩ : ∃ Q : Option Value → FW → Prop, Q = (fun r F' => r = some (.int (Int32.ofNat (h_d (m_drawn T (S, x) n).1) - Int32.ofNat (h_d S))) ∧ FX (fun q => (p ≤ q ∧ q ≤ p + 7) ∨ (7 ≤ q ∧ q ≤ 9) ∨ q = 40) F F' ∧ SHR F' p (t_m T) (m_drawn T (S, x) n).1 ∧ F'.1 40 0 = (m_drawn T (S, x) n).2) := ⟨_, rfl⟩
  rw [← hQ]
  have b3 := hT.mb
  have b5 := hT.gb
  have b7 := hS.db
  refine (show Pv (ab_T (L_X10_drawDays Z_X10_drawDeed Z_X10_drawDeath Z_X1_passDays)) N 0 [some (.ref 0), some (.ref p), some (.int (Int32.ofNat n)), some (.int x), none, none] [] F Q from ?_)
  refine Pv.aload rfl rfl ?_
  refine Pv.getI (z := Int32.ofNat (h_d S)) rfl rfl (hS.d) ?_
  refine Pv.istore (lo' := [some (.ref 0), some (.ref p), some (.int (Int32.ofNat n)), some (.int x), some (.int (Int32.ofNat (h_d S))), none]) rfl rfl ?_
  refine Pv.aload rfl rfl ?_
  refine Pv.getR (v := .ref 40) rfl rfl (GW.at (a := 0) (k := 8) (b := 40) hG (by decide)) ?_
  refine Pv.iload rfl rfl ?_
  refine Pv.putI rfl rfl ?_
  refine Pv.lit rfl ?_
  refine Pv.istore (lo' := [some (.ref 0), some (.ref p), some (.int (Int32.ofNat n)), some (.int x), some (.int (Int32.ofNat (h_d S))), some (.int 0)]) rfl rfl ?_
  refine Pv.lp (ι := Nat × FW) (lof := fun ⟨k, G⟩ => [some (.ref 0), some (.ref p), some (.int (Int32.ofNat n)), some (.int x), some (.int (Int32.ofNat (h_d S))), some (.int (Int32.ofNat k))]) (Ff := fun ⟨k, G⟩ => G) (P := fun ⟨k, G⟩ => k ≤ n ∧ FX (fun q => (p ≤ q ∧ q ≤ p + 7) ∨ (7 ≤ q ∧ q ≤ 9) ∨ q = 40) F G ∧ SHR G p (t_m T) (m_drawn T (S, x) k).1 ∧ G.1 40 0 = (m_drawn T (S, x) k).2) ?_ (0, (fp F 40 0 x)) (⟨Nat.zero_le _, ((FX.rf (P := fun q => (p ≤ q ∧ q ≤ p + 7) ∨ (7 ≤ q ∧ q ≤ 9) ∨ q = 40))).fp (show (p ≤ 40 ∧ 40 ≤ p + 7) ∨ (7 ≤ 40 ∧ 40 ≤ 9) ∨ 40 = 40 by omega), (hS.fx (P := fun q => q = 40) (((FX.rf (P := fun q => q = 40))).fp rfl) (fun q h1 h2 (c : q = 40) => by omega)), fp_eq⟩)
  rintro N1 hN2 ⟨k, G⟩ hi3 ih4
  refine (show Pv _ _ 17 [some (.ref 0), some (.ref p), some (.int (Int32.ofNat n)), some (.int x), some (.int (Int32.ofNat (h_d S))), some (.int (Int32.ofNat k))] [] G Q from ?_)
  obtain ⟨hk, hxG, hA, hx0⟩ := hi3
  have hx5 := hT.fx (P := fun q => (p ≤ q ∧ q ≤ p + 7) ∨ (7 ≤ q ∧ q ≤ 9) ∨ q = 40) hxG (fun q h1 h2 (c : (p ≤ q ∧ q ≤ p + 7) ∨ (7 ≤ q ∧ q ≤ 9) ∨ q = 40) => by omega)
  have hx6 := hG.fx (P := fun q => (p ≤ q ∧ q ≤ p + 7) ∨ (7 ≤ q ∧ q ≤ 9) ∨ q = 40) hxG
  have hx7 : G.2.1 0 13 = .ref t := by rw [hxG.2.2.1]; exact ht
  have bD := hA.db
  refine Pv.iloadS rfl rfl ?_
  refine Pv.iload rfl rfl ?_
  refine Pv.icmp rfl (fun c8 => ?_) (fun c8 => ?_)
  · skip
    replace c8 := (i_le (a := n) (b := k) (by omega) (by omega)).mp (of_decide_eq_true c8)
    refine Pv.aload rfl rfl ?_
    refine Pv.getI (z := Int32.ofNat (h_d (m_drawn T (S, x) k).1)) rfl rfl (hA.d) ?_
    refine Pv.iload rfl rfl ?_
    refine Pv.bin (z := (Int32.ofNat (h_d (m_drawn T (S, x) k).1)) - (Int32.ofNat (h_d S))) rfl (rfl) ?_
    exact Pv.ret rfl (by rw [hQ]; exact ⟨by rw [show n = k by omega], hxG, by rw [show n = k by omega]; exact hA, by rw [show n = k by omega]; exact hx0⟩)
  · skip
    replace c8 := mt (i_le (a := n) (b := k) (by omega) (by omega)).mpr (of_decide_eq_false c8)
    refine Pv.aload rfl rfl ?_
    refine Pv.getI (z := Int32.ofNat (h_d (m_drawn T (S, x) k).1)) rfl rfl (hA.d) ?_
    refine Pv.lit rfl ?_
    refine Pv.icmp rfl (fun c9 => ?_) (fun c9 => ?_)
    · skip
      replace c9 := (i_le (a := 400) (b := h_d (m_drawn T (S, x) k).1) (by omega) (by omega)).mp (of_decide_eq_true c9)
      refine Pv.aload rfl rfl ?_
      refine Pv.getI (z := Int32.ofNat (h_d (m_drawn T (S, x) k).1)) rfl rfl (hA.d) ?_
      refine Pv.iload rfl rfl ?_
      refine Pv.bin (z := (Int32.ofNat (h_d (m_drawn T (S, x) k).1)) - (Int32.ofNat (h_d S))) rfl (rfl) ?_
      exact Pv.ret rfl (by rw [hQ]; exact ⟨by rw [drawn_e (T := T) (q := (S, x)) (k := k) (n := n) (by omega) (by omega)], hxG, by rw [drawn_e (T := T) (q := (S, x)) (k := k) (n := n) (by omega) (by omega)]; exact hA, by rw [drawn_e (T := T) (q := (S, x)) (k := k) (n := n) (by omega) (by omega)]; exact hx0⟩)
    · skip
      replace c9 := mt (i_le (a := 400) (b := h_d (m_drawn T (S, x) k).1) (by omega) (by omega)).mpr (of_decide_eq_false c9)
      refine Pv.aload rfl rfl ?_
      refine Pv.aload rfl rfl ?_
      refine Pv.callV (as := [.ref 0, .ref p]) (rest := []) rfl rfl rfl (f_drawDeed hx6 hx7 hx5 hA hx0 (by omega) (by omega) (by omega) (by omega)) ?_
      rintro _ G10 ⟨rfl, x11, sr13, hs14⟩
      have hx12 := FX.tr (P := fun q => (p ≤ q ∧ q ≤ p + 7) ∨ (7 ≤ q ∧ q ≤ 9) ∨ q = 40) hxG (x11.wd (fun q (c : (p ≤ q ∧ q ≤ p + 7) ∨ q = 40) => (show (p ≤ q ∧ q ≤ p + 7) ∨ (7 ≤ q ∧ q ≤ 9) ∨ q = 40 by omega)))
      have hx15 := hx5.fx (P := fun q => (p ≤ q ∧ q ≤ p + 7) ∨ q = 40) x11 (fun q h1 h2 (c : (p ≤ q ∧ q ≤ p + 7) ∨ q = 40) => by omega)
      have hx16 := hx6.fx (P := fun q => (p ≤ q ∧ q ≤ p + 7) ∨ q = 40) x11
      have hr17 : G10.2.1 0 13 = .ref t := by rw [x11.2.2.1]; exact hx7
      refine (show Pv _ _ 38 [some (.ref 0), some (.ref p), some (.int (Int32.ofNat n)), some (.int x), some (.int (Int32.ofNat (h_d S))), some (.int (Int32.ofNat k))] [] G10 Q from ?_)
      refine Pv.aload rfl rfl ?_
      refine Pv.aload rfl rfl ?_
      refine Pv.callV (as := [.ref 0, .ref p]) (rest := []) rfl rfl rfl (f_drawDeath hx16 hr17 hx15 sr13 hs14 (by omega) (by omega) (by omega) (by omega)) ?_
      rintro _ G18 ⟨rfl, x19, sr21, hs22⟩
      have hx20 := FX.tr (P := fun q => (p ≤ q ∧ q ≤ p + 7) ∨ (7 ≤ q ∧ q ≤ 9) ∨ q = 40) hx12 (x19.wd (fun q (c : (p ≤ q ∧ q ≤ p + 7) ∨ q = 40) => (show (p ≤ q ∧ q ≤ p + 7) ∨ (7 ≤ q ∧ q ≤ 9) ∨ q = 40 by omega)))
      have hx23 := hx15.fx (P := fun q => (p ≤ q ∧ q ≤ p + 7) ∨ q = 40) x19 (fun q h1 h2 (c : (p ≤ q ∧ q ≤ p + 7) ∨ q = 40) => by omega)
      have hx24 := hx16.fx (P := fun q => (p ≤ q ∧ q ≤ p + 7) ∨ q = 40) x19
      have hr25 : G18.2.1 0 13 = .ref t := by rw [x19.2.2.1]; exact hr17
      refine (show Pv _ _ 43 [some (.ref 0), some (.ref p), some (.int (Int32.ofNat n)), some (.int x), some (.int (Int32.ofNat (h_d S))), some (.int (Int32.ofNat k))] [] G18 Q from ?_)
      refine Pv.aload rfl rfl ?_
      refine Pv.getR (v := .ref 7) rfl rfl (GW.at (a := 0) (k := 2) (b := 7) hx24 (by decide)) ?_
      refine Pv.aload rfl rfl ?_
      refine Pv.getR (v := .ref t) rfl rfl (hr25) ?_
      refine Pv.aload rfl rfl ?_
      refine Pv.lit rfl ?_
      refine Pv.callV (as := [.ref 7, .ref t, .ref p, .int 1]) (rest := []) rfl rfl rfl (f_passDays (n := 1) hx23 sr21 hx24 (by omega) (by omega) (by omega) (by omega)) ?_
      rintro _ G26 ⟨rfl, x27, sr29, pl30⟩
      have hx28 := FX.tr (P := fun q => (p ≤ q ∧ q ≤ p + 7) ∨ (7 ≤ q ∧ q ≤ 9) ∨ q = 40) hx20 (x27.wd (fun q (c : (p ≤ q ∧ q ≤ p + 7) ∨ (7 ≤ q ∧ q ≤ 9)) => (show (p ≤ q ∧ q ≤ p + 7) ∨ (7 ≤ q ∧ q ≤ 9) ∨ q = 40 by omega)))
      have hx31 := hx23.fx (P := fun q => (p ≤ q ∧ q ≤ p + 7) ∨ (7 ≤ q ∧ q ≤ 9)) x27 (fun q h1 h2 (c : (p ≤ q ∧ q ≤ p + 7) ∨ (7 ≤ q ∧ q ≤ 9)) => by omega)
      have hx32 := hx24.fx (P := fun q => (p ≤ q ∧ q ≤ p + 7) ∨ (7 ≤ q ∧ q ≤ 9)) x27
      have hr33 : G26.2.1 0 13 = .ref t := by rw [x27.2.2.1]; exact hr25
      refine (show Pv _ _ 56 [some (.ref 0), some (.ref p), some (.int (Int32.ofNat n)), some (.int x), some (.int (Int32.ofNat (h_d S))), some (.int (Int32.ofNat k))] [.int (Int32.ofNat (h_d (m_days T (m_dXs T (m_dDs T ((m_drawn T (S, x) k).1) ((m_drawn T (S, x) k).2)) (m_dDx T ((m_drawn T (S, x) k).1) ((m_drawn T (S, x) k).2))) 1)) - Int32.ofNat (h_d (m_dXs T (m_dDs T ((m_drawn T (S, x) k).1) ((m_drawn T (S, x) k).2)) (m_dDx T ((m_drawn T (S, x) k).1) ((m_drawn T (S, x) k).2)))))] G26 Q from ?_)
      have hq34 : SHR G26 p (t_m T) (m_day T (m_dXs T (m_dDs T ((m_drawn T (S, x) k).1) ((m_drawn T (S, x) k).2)) (m_dDx T ((m_drawn T (S, x) k).1) ((m_drawn T (S, x) k).2)))) := by have q := sr29; rw [days_one (S := (m_dXs T (m_dDs T ((m_drawn T (S, x) k).1) ((m_drawn T (S, x) k).2)) (m_dDx T ((m_drawn T (S, x) k).1) ((m_drawn T (S, x) k).2)))) (by rw [h_d_drawX, h_d_drawD]; omega)] at q; exact q
      refine Pv.pop rfl ?_
      refine Pv.iinc (y := Int32.ofNat (k + 1)) (lo' := [some (.ref 0), some (.ref p), some (.int (Int32.ofNat n)), some (.int x), some (.int (Int32.ofNat (h_d S))), some (.int (Int32.ofNat (k + 1)))]) rfl rfl (i_add k 1) rfl ?_
      refine Pv.goto rfl ?_
      exact ih4 (k + 1, G26) (⟨by omega, hx28, by rw [drawn_1 (by omega)]; exact hq34, by rw [drawn_2 (by omega)]; exact (x27.1 40 0 (by omega)).trans hs22⟩)
set_option maxRecDepth 100000 in
set_option maxHeartbeats 4000000 in
theorem o_odds {F : FW} {t : Nat} {T : St} {S : Sh} (hG : GW F) (ht : F.2.1 0 13 = .ref t) (hT : TR F t T) (hS : SHR F 12 (t_m T) S) (j0 : t = 45 ∨ t = 53) (x y z : Int32) : Pm Z_X10_odds [.ref 0, .int x, .int y, .int z] F (fun r F' => r = some (.int (a_odds T S x y z)) ∧ CDR F F') := by
  refine Pm.of fun N => ?_
  obtain ⟨Q, hQ⟩ : ∃ Q : Option Value → FW → Prop, Q = (fun r F' => r = some (.int (a_odds T S x y z)) ∧ CDR F F') := ⟨_, rfl⟩
  rw [← hQ]
  have b3 := hT.mb
  have b4 := hT.nb
  have b5 := hT.gb
  have b6 := m_from_lt S
  have b7 := hS.db
  refine (show Pv (ab_T (L_X10_odds Z_X10_isMan Z_X10_isWithin Z_X6_copyFrom Z_X10_drawDays)) N 0 [some (.ref 0), some (.int x), some (.int y), some (.int z), none, none] [] F Q from ?_)
  refine Pv.aload rfl rfl ?_
  refine Pv.iload rfl rfl ?_
  refine Pv.callVI (as := [.ref 0, .int x]) (rest := []) (z := b2i (nd (t_m T) x).isSome) rfl rfl rfl (o_isMan hG ht hT hS j0 x) ?_
  refine Pv.if0 rfl (fun c1 => ?_) (fun c1 => ?_)
  · skip
    replace c1 := of_decide_eq_true c1
    replace c1 := b2z.mp c1
    refine Pv.lit rfl ?_
    exact Pv.ret rfl (by rw [hQ]; exact ⟨by unfold a_odds; rw [nd_f c1], FX.rf⟩)
  · skip
    replace c1 := of_decide_eq_false c1
    replace c1 := b2n.mp c1
    obtain ⟨m, hm, hml, rfl⟩ := nd_t c1
    refine Pv.iload rfl rfl ?_
    refine Pv.lit rfl ?_
    refine Pv.callI (as := [.int y, .int 30]) (rest := []) (z := b2i (decide (1 ≤ y) && decide (y ≤ 30))) rfl rfl rfl ((o_isWithin y 30)) ?_
    refine Pv.if0 rfl (fun c2 => ?_) (fun c2 => ?_)
    · skip
      replace c2 := of_decide_eq_true c2
      replace c2 := b2z.mp c2
      refine Pv.lit rfl ?_
      exact Pv.ret rfl (by rw [hQ]; exact ⟨by unfold a_odds; rw [hm]; dsimp only; rw [ndr_f ((ndr_in (a := 1) (b := 30) (by omega) (by omega)).symm.trans c2)], FX.rf⟩)
    · skip
      replace c2 := of_decide_eq_false c2
      replace c2 := b2n.mp c2
      obtain ⟨n, hn, hna, hnb, rfl⟩ := ndr_t ((ndr_in (a := 1) (b := 30) (by omega) (by omega)).symm.trans c2)
      refine Pv.aload rfl rfl ?_
      refine Pv.getR (v := .ref t) rfl rfl (ht) ?_
      refine Pv.getI (z := Int32.ofNat (t_g T)) rfl rfl (hT.g) ?_
      refine Pv.if0 rfl (fun c3 => ?_) (fun c3 => ?_)
      · skip
        replace c3 : decide (Int32.ofNat (t_g T) = 0) = false := by simpa using c3
        replace c3 := mt (i_eq (a := t_g T) (b := 0) (by omega) (by omega)).mpr (of_decide_eq_false c3)
        have hg : 0 < t_g T := by omega
        refine Pv.lit rfl ?_
        refine Pv.istore (lo' := [some (.ref 0), some (.int (Int32.ofNat m)), some (.int (Int32.ofNat n)), some (.int z), some (.int 0), none]) rfl rfl ?_
        refine Pv.lit rfl ?_
        refine Pv.istore (lo' := [some (.ref 0), some (.int (Int32.ofNat m)), some (.int (Int32.ofNat n)), some (.int z), some (.int 0), some (.int 0)]) rfl rfl ?_
        refine Pv.lp (ι := Nat × Int32 × FW) (lof := fun ⟨k, b, G⟩ => [some (.ref 0), some (.int (Int32.ofNat m)), some (.int (Int32.ofNat n)), some (.int z), some (.int b), some (.int (Int32.ofNat k))]) (Ff := fun ⟨k, b, G⟩ => G) (P := fun ⟨k, b, G⟩ => FX (fun q => (7 ≤ q ∧ q ≤ 9) ∨ (20 ≤ q ∧ q ≤ 35) ∨ q = 40 ∨ q = 43) F G ∧ (k ≤ n) ∧ (b = m_cnt (fun i => decide (h_t S m < h_t (m_drawn T (S, z + Int32.ofNat i) 20).1 m)) k)) ?_ (0, 0, F) (⟨FX.rf, Nat.zero_le _, rfl⟩)
        rintro N4 hN5 ⟨k, b, G⟩ hi6 ih7
        refine (show Pv _ _ 35 [some (.ref 0), some (.int (Int32.ofNat m)), some (.int (Int32.ofNat n)), some (.int z), some (.int b), some (.int (Int32.ofNat k))] [] G Q from ?_)
        obtain ⟨hxG, hk, hb⟩ := hi6
        have hx8 := hT.fx (P := fun q => (7 ≤ q ∧ q ≤ 9) ∨ (20 ≤ q ∧ q ≤ 35) ∨ q = 40 ∨ q = 43) hxG (fun q h1 h2 (c : (7 ≤ q ∧ q ≤ 9) ∨ (20 ≤ q ∧ q ≤ 35) ∨ q = 40 ∨ q = 43) => by omega)
        have hx9 := hS.fx (P := fun q => (7 ≤ q ∧ q ≤ 9) ∨ (20 ≤ q ∧ q ≤ 35) ∨ q = 40 ∨ q = 43) hxG (fun q h1 h2 (c : (7 ≤ q ∧ q ≤ 9) ∨ (20 ≤ q ∧ q ≤ 35) ∨ q = 40 ∨ q = 43) => by omega)
        have hx10 := hG.fx (P := fun q => (7 ≤ q ∧ q ≤ 9) ∨ (20 ≤ q ∧ q ≤ 35) ∨ q = 40 ∨ q = 43) hxG
        have hx11 : G.2.1 0 13 = .ref t := by rw [hxG.2.2.1]; exact ht
        refine Pv.iloadS rfl rfl ?_
        refine Pv.iload rfl rfl ?_
        refine Pv.icmp rfl (fun c12 => ?_) (fun c12 => ?_)
        · skip
          replace c12 := (i_le (a := n) (b := k) (by omega) (by omega)).mp (of_decide_eq_true c12)
          refine Pv.iload rfl rfl ?_
          exact Pv.ret rfl (by rw [hQ]; exact ⟨by unfold a_odds; rw [hm]; dsimp only; rw [hn]; dsimp only; rw [if_neg (by omega), hb, show k = n by omega], hxG⟩)
        · skip
          replace c12 := mt (i_le (a := n) (b := k) (by omega) (by omega)).mpr (of_decide_eq_false c12)
          refine Pv.aload rfl rfl ?_
          refine Pv.getR (v := .ref 20) rfl rfl (GW.at (a := 0) (k := 5) (b := 20) hx10 (by decide)) ?_
          refine Pv.aload rfl rfl ?_
          refine Pv.getR (v := .ref 12) rfl rfl (GW.at (a := 0) (k := 4) (b := 12) hx10 (by decide)) ?_
          refine Pv.callV (as := [.ref 20, .ref 12]) (rest := []) rfl rfl rfl (f_shCopy (GW.o20 hx10) hx9 b3 (by omega)) ?_
          rintro _ G13 ⟨rfl, x14, sr16⟩
          have hx15 := FX.tr (P := fun q => (7 ≤ q ∧ q ≤ 9) ∨ (20 ≤ q ∧ q ≤ 35) ∨ q = 40 ∨ q = 43) hxG (x14.wd (fun q (c : 20 ≤ q ∧ q ≤ 20 + 7) => (show (7 ≤ q ∧ q ≤ 9) ∨ (20 ≤ q ∧ q ≤ 35) ∨ q = 40 ∨ q = 43 by omega)))
          have hx17 := hx8.fx (P := fun q => 20 ≤ q ∧ q ≤ 20 + 7) x14 (fun q h1 h2 (c : 20 ≤ q ∧ q ≤ 20 + 7) => by omega)
          have hx18 := hx9.fx (P := fun q => 20 ≤ q ∧ q ≤ 20 + 7) x14 (fun q h1 h2 (c : 20 ≤ q ∧ q ≤ 20 + 7) => by omega)
          have hx19 := hx10.fx (P := fun q => 20 ≤ q ∧ q ≤ 20 + 7) x14
          have hr20 : G13.2.1 0 13 = .ref t := by rw [x14.2.2.1]; exact hx11
          refine (show Pv _ _ 52 [some (.ref 0), some (.int (Int32.ofNat m)), some (.int (Int32.ofNat n)), some (.int z), some (.int b), some (.int (Int32.ofNat k))] [] G13 Q from ?_)
          refine Pv.aload rfl rfl ?_
          refine Pv.aload rfl rfl ?_
          refine Pv.getR (v := .ref 20) rfl rfl (GW.at (a := 0) (k := 5) (b := 20) hx19 (by decide)) ?_
          refine Pv.lit rfl ?_
          refine Pv.iload rfl rfl ?_
          refine Pv.iload rfl rfl ?_
          refine Pv.bin (z := z + (Int32.ofNat k)) rfl (rfl) ?_
          refine Pv.callV (as := [.ref 0, .ref 20, .int 20, .int (z + (Int32.ofNat k))]) (rest := []) rfl rfl rfl (f_drawDays (n := 20) (x := z + (Int32.ofNat k)) hx19 hr20 hx17 sr16 hg (by omega) (by omega) (by omega) (by omega) (by omega) (by omega)) ?_
          rintro _ G21 ⟨rfl, x22, sr24, hs25⟩
          have hx23 := FX.tr (P := fun q => (7 ≤ q ∧ q ≤ 9) ∨ (20 ≤ q ∧ q ≤ 35) ∨ q = 40 ∨ q = 43) hx15 (x22.wd (fun q (c : (20 ≤ q ∧ q ≤ 20 + 7) ∨ (7 ≤ q ∧ q ≤ 9) ∨ q = 40) => (show (7 ≤ q ∧ q ≤ 9) ∨ (20 ≤ q ∧ q ≤ 35) ∨ q = 40 ∨ q = 43 by omega)))
          have hx26 := hx17.fx (P := fun q => (20 ≤ q ∧ q ≤ 20 + 7) ∨ (7 ≤ q ∧ q ≤ 9) ∨ q = 40) x22 (fun q h1 h2 (c : (20 ≤ q ∧ q ≤ 20 + 7) ∨ (7 ≤ q ∧ q ≤ 9) ∨ q = 40) => by omega)
          have hx27 := hx18.fx (P := fun q => (20 ≤ q ∧ q ≤ 20 + 7) ∨ (7 ≤ q ∧ q ≤ 9) ∨ q = 40) x22 (fun q h1 h2 (c : (20 ≤ q ∧ q ≤ 20 + 7) ∨ (7 ≤ q ∧ q ≤ 9) ∨ q = 40) => by omega)
          have hx28 := hx19.fx (P := fun q => (20 ≤ q ∧ q ≤ 20 + 7) ∨ (7 ≤ q ∧ q ≤ 9) ∨ q = 40) x22
          have hr29 : G21.2.1 0 13 = .ref t := by rw [x22.2.2.1]; exact hr20
          refine (show Pv _ _ 66 [some (.ref 0), some (.int (Int32.ofNat m)), some (.int (Int32.ofNat n)), some (.int z), some (.int b), some (.int (Int32.ofNat k))] [.int (Int32.ofNat (h_d (m_drawn T (S, z + (Int32.ofNat k)) 20).1) - Int32.ofNat (h_d S))] G21 Q from ?_)
          refine Pv.pop rfl ?_
          refine Pv.aload rfl rfl ?_
          refine Pv.getR (v := .ref 20) rfl rfl (GW.at (a := 0) (k := 5) (b := 20) hx28 (by decide)) ?_
          refine Pv.getR (v := .ref 26) rfl rfl (sr24.o 5 (by decide)) ?_
          refine Pv.iload rfl rfl ?_
          refine Pv.ald (z := h_t (m_drawn T (S, z + (Int32.ofNat k)) 20).1 m) rfl (by rw [i_toNat (by omega)]; exact sr24.t _ (by omega)) ?_
          refine Pv.aload rfl rfl ?_
          refine Pv.getR (v := .ref 12) rfl rfl (GW.at (a := 0) (k := 4) (b := 12) hx28 (by decide)) ?_
          refine Pv.getR (v := .ref 18) rfl rfl (hx27.o 5 (by decide)) ?_
          refine Pv.iload rfl rfl ?_
          refine Pv.ald (z := h_t S m) rfl (by rw [i_toNat (by omega)]; exact hx27.t _ (by omega)) ?_
          refine Pv.icmp rfl (fun c30 => ?_) (fun c30 => ?_)
          · skip
            replace c30 := of_decide_eq_true c30
            refine Pv.iinc (y := Int32.ofNat (k + 1)) (lo' := [some (.ref 0), some (.int (Int32.ofNat m)), some (.int (Int32.ofNat n)), some (.int z), some (.int b), some (.int (Int32.ofNat (k + 1)))]) rfl rfl (i_add k 1) rfl ?_
            refine Pv.goto rfl ?_
            exact ih7 (k + 1, b, G21) (⟨hx23, by omega, by rw [hb]; exact (if_neg (fun q => absurd (of_decide_eq_true q) (Int32.not_lt.mpr c30))).symm⟩)
          · skip
            replace c30 := of_decide_eq_false c30
            refine Pv.iinc (y := b + 1) (lo' := [some (.ref 0), some (.int (Int32.ofNat m)), some (.int (Int32.ofNat n)), some (.int z), some (.int (b + 1)), some (.int (Int32.ofNat k))]) rfl rfl (rfl) rfl ?_
            refine Pv.iinc (y := Int32.ofNat (k + 1)) (lo' := [some (.ref 0), some (.int (Int32.ofNat m)), some (.int (Int32.ofNat n)), some (.int z), some (.int (b + 1)), some (.int (Int32.ofNat (k + 1)))]) rfl rfl (i_add k 1) rfl ?_
            refine Pv.goto rfl ?_
            exact ih7 (k + 1, b + 1, G21) (⟨hx23, by omega, by rw [hb]; exact (if_pos (decide_eq_true (Int32.not_le.mp c30))).symm⟩)
      · skip
        replace c3 : decide (Int32.ofNat (t_g T) = 0) = true := by simpa using c3
        replace c3 := (i_eq (a := t_g T) (b := 0) (by omega) (by omega)).mp (of_decide_eq_true c3)
        refine Pv.lit rfl ?_
        exact Pv.ret rfl (by rw [hQ]; exact ⟨by unfold a_odds; rw [hm]; dsimp only; rw [hn]; dsimp only; rw [if_pos (by omega)], FX.rf⟩)
end
-- 63.b57.new.lean.txt
section
/-! ===== new objects and arrays ===== -/
/-- one more place, of blank fields or elements, n long -/
def fnw (F : FW) (n : Nat) : FW := (fun p j => if p = F.2.2.2.1 then 0 else F.1 p j, fun p j => if p = F.2.2.2.1 then .null else F.2.1 p j, fun p j => if p = F.2.2.2.1 then 0 else F.2.2.1 p j, F.2.2.2.1 + 1, fun p => if p = F.2.2.2.1 then n else F.2.2.2.2 p)
theorem fl_new {hp : ab_H} {c : Nat} {fs : List Value} (h : ∀ v, v ∈ fs → v = .null ∨ v = .int 0 ∨ v = .long 0) : fl (ab_push hp (.inr (c, fs))) = fnw (fl hp) 0 := by
  have hv : ∀ j : Nat, fs[j]? = none ∨ fs[j]? = some Value.null ∨ fs[j]? = some (Value.int 0) ∨ fs[j]? = some (Value.long 0) := fun j => by
    cases e : fs[j]? with
    | none => exact Or.inl rfl
    | some v =>
      rcases h v (List.mem_of_getElem? e) with rfl | rfl | rfl
      · exact Or.inr (Or.inl rfl)
      · exact Or.inr (Or.inr (Or.inl rfl))
      · exact Or.inr (Or.inr (Or.inr rfl))
  refine Prod.ext (funext fun p => funext fun j => ?_) (Prod.ext (funext fun p => funext fun j => ?_) (Prod.ext (funext fun p => funext fun j => ?_) (Prod.ext rfl (funext fun p => ?_))))
  · show gi _ p j = if p = hp.1 then 0 else gi hp p j
    unfold gi ab_push
    by_cases c1 : p = hp.1
    · rw [if_pos c1]
      dsimp only
      rw [if_pos c1]
      dsimp only
      rcases hv j with e | e | e | e <;> rw [e]
    · rw [if_neg c1]
      dsimp only
      rw [if_neg c1]
  · show gr _ p j = if p = hp.1 then .null else gr hp p j
    unfold gr ab_push
    by_cases c1 : p = hp.1
    · rw [if_pos c1]
      dsimp only
      rw [if_pos c1]
      dsimp only
      rcases hv j with e | e | e | e <;> rw [e]
    · rw [if_neg c1]
      dsimp only
      rw [if_neg c1]
  · show gl _ p j = if p = hp.1 then 0 else gl hp p j
    unfold gl ab_push
    by_cases c1 : p = hp.1
    · rw [if_pos c1]
      dsimp only
      rw [if_pos c1]
      dsimp only
      rcases hv j with e | e | e | e <;> rw [e]
    · rw [if_neg c1]
      dsimp only
      rw [if_neg c1]
  · show gn _ p = if p = hp.1 then 0 else gn hp p
    unfold gn ab_push
    by_cases c1 : p = hp.1
    · rw [if_pos c1]
      dsimp only
      rw [if_pos c1]
    · rw [if_neg c1]
      dsimp only
      rw [if_neg c1]
theorem fl_newa {hp : ab_H} {t n : Nat} : fl (ab_push hp (.inl (t, n, .inl (fun _ => 0)))) = fnw (fl hp) n := by
  refine Prod.ext (funext fun p => funext fun j => ?_) (Prod.ext (funext fun p => funext fun j => ?_) (Prod.ext (funext fun p => funext fun j => ?_) (Prod.ext rfl (funext fun p => ?_))))
  · show gi _ p j = if p = hp.1 then 0 else gi hp p j
    unfold gi ab_push
    by_cases c1 : p = hp.1
    · rw [if_pos c1]
      dsimp only
      rw [if_pos c1]
    · rw [if_neg c1]
      dsimp only
      rw [if_neg c1]
  · show gr _ p j = if p = hp.1 then .null else gr hp p j
    unfold gr ab_push
    by_cases c1 : p = hp.1
    · rw [if_pos c1]
      dsimp only
      rw [if_pos c1]
    · rw [if_neg c1]
      dsimp only
      rw [if_neg c1]
  · show gl _ p j = if p = hp.1 then 0 else gl hp p j
    unfold gl ab_push
    by_cases c1 : p = hp.1
    · rw [if_pos c1]
      dsimp only
      rw [if_pos c1]
    · rw [if_neg c1]
      dsimp only
      rw [if_neg c1]
  · show gn _ p = if p = hp.1 then n else gn hp p
    unfold gn ab_push
    by_cases c1 : p = hp.1
    · rw [if_pos c1]
      dsimp only
      rw [if_pos c1]
    · rw [if_neg c1]
      dsimp only
      rw [if_neg c1]
theorem fl_newl {hp : ab_H} {t n : Nat} : fl (ab_push hp (.inl (t, n, .inr (.inl (fun _ => 0))))) = fnw (fl hp) n := by
  refine Prod.ext (funext fun p => funext fun j => ?_) (Prod.ext (funext fun p => funext fun j => ?_) (Prod.ext (funext fun p => funext fun j => ?_) (Prod.ext rfl (funext fun p => ?_))))
  · show gi _ p j = if p = hp.1 then 0 else gi hp p j
    unfold gi ab_push
    by_cases c1 : p = hp.1
    · rw [if_pos c1]
      dsimp only
      rw [if_pos c1]
    · rw [if_neg c1]
      dsimp only
      rw [if_neg c1]
  · show gr _ p j = if p = hp.1 then .null else gr hp p j
    unfold gr ab_push
    by_cases c1 : p = hp.1
    · rw [if_pos c1]
      dsimp only
      rw [if_pos c1]
    · rw [if_neg c1]
      dsimp only
      rw [if_neg c1]
  · show gl _ p j = if p = hp.1 then 0 else gl hp p j
    unfold gl ab_push
    by_cases c1 : p = hp.1
    · rw [if_pos c1]
      dsimp only
      rw [if_pos c1]
    · rw [if_neg c1]
      dsimp only
      rw [if_neg c1]
  · show gn _ p = if p = hp.1 then n else gn hp p
    unfold gn ab_push
    by_cases c1 : p = hp.1
    · rw [if_pos c1]
      dsimp only
      rw [if_pos c1]
    · rw [if_neg c1]
      dsimp only
      rw [if_neg c1]
section PVN
variable {T : Nat → Option ab_A} {N i j : Nat} {lo : List (Option Value)} {st : List Value} {F : FW} {Q : Option Value → FW → Prop}
theorem Pv.new {ci n MC MS : Nat} {fs : List Value} (hT : T i = some (ab_nx j (ab_new ci n fs MC MS))) (h0 : ∀ v, v ∈ fs → v = .null ∨ v = .int 0 ∨ v = .long 0) (h1 : ∀ k, k < fs.length → fk ci k = 9 ∨ tyv (fk ci k) (fs.getD k .null) = true) (h : Pv T N j lo (.ref F.2.2.2.1 :: st) (fnw F 0) Q) : Pv T N i lo st F Q :=
  (Pv.nx hT fun u hp s hw hF e => by
    unfold ab_new at e
    dsimp only at e
    rw [Bool.cond_eq_ite] at e
    split at e
    · obtain rfl := Option.some.inj e
      refine ⟨wt_push hw fun k v hv => ?_, ?_⟩
      · have hk := (List.getElem?_eq_some_iff.mp hv).1
        have := h1 k hk
        rw [show fs.getD k .null = v from by rw [List.getD_eq_getElem?_getD, hv]; rfl] at this
        exact this
      · show Pv T N j lo (.ref hp.1 :: st) (fl (ab_push hp (.inr (ci, fs)))) Q
        rw [fl_new h0, hF, show hp.1 = F.2.2.2.1 from by rw [← hF]; rfl]
        exact h
    · cases e).w
theorem Pv.newa {t MC MS k : Nat} {n : Int32} (hT : T i = some (ab_nx j (ab_newa t (fun n => (n, .inl (fun _ => 0))) MC MS))) (hn : n.toNatClampNeg = k) (h : Pv T N j lo (.ref F.2.2.2.1 :: st) (fnw F k) Q) : Pv T N i lo (.int n :: st) F Q :=
  (Pv.nx hT fun u hp s hw hF e => by
    unfold ab_newa at e
    dsimp only at e
    rw [Bool.cond_eq_ite] at e
    split at e
    · obtain rfl := Option.some.inj e
      refine ⟨wt_pushA hw, ?_⟩
      show Pv T N j lo (.ref hp.1 :: st) (fl (ab_push hp (.inl (t, n.toNatClampNeg, .inl (fun _ => 0))))) Q
      rw [fl_newa, hF, show hp.1 = F.2.2.2.1 from by rw [← hF]; rfl, hn]
      exact h
    · cases e).w
theorem Pv.newl {t MC MS k : Nat} {n : Int32} (hT : T i = some (ab_nx j (ab_newa t (fun n => (n, .inr (.inl (fun _ => 0)))) MC MS))) (hn : n.toNatClampNeg = k) (h : Pv T N j lo (.ref F.2.2.2.1 :: st) (fnw F k) Q) : Pv T N i lo (.int n :: st) F Q :=
  (Pv.nx hT fun u hp s hw hF e => by
    unfold ab_newa at e
    dsimp only at e
    rw [Bool.cond_eq_ite] at e
    split at e
    · obtain rfl := Option.some.inj e
      refine ⟨wt_pushA hw, ?_⟩
      show Pv T N j lo (.ref hp.1 :: st) (fl (ab_push hp (.inl (t, n.toNatClampNeg, .inr (.inl (fun _ => 0)))))) Q
      rw [fl_newl, hF, show hp.1 = F.2.2.2.1 from by rw [← hF]; rfl, hn]
      exact h
    · cases e).w
end PVN
/-- an object at p and some places behind it are new: all that was there stays -/
def NWF (p n : Nat) (F F' : FW) : Prop := F'.2.2.2.1 = F.2.2.2.1 + n ∧ ∀ a, a < F.2.2.2.1 → a ≠ p → (∀ k, F'.1 a k = F.1 a k) ∧ (∀ k, F'.2.1 a k = F.2.1 a k) ∧ (∀ k, F'.2.2.1 a k = F.2.2.1 a k) ∧ F'.2.2.2.2 a = F.2.2.2.2 a
/-- an array is made, and a field of p refers to it -/
theorem NWF.st {p n k j : Nat} {F G : FW} (h : NWF p n F G) : NWF p (n + 1) F (fpr (fnw G k) p j (.ref G.2.2.2.1)) := by
  refine ⟨?_, fun a ha hp => ?_⟩
  · show G.2.2.2.1 + 1 = _
    rw [h.1]
    omega
  · obtain ⟨h1, h2, h3, h4⟩ := h.2 a ha hp
    have hz : a ≠ G.2.2.2.1 := by
      rw [h.1]
      omega
    refine ⟨fun k => ?_, fun k => ?_, fun k => ?_, ?_⟩
    · exact (if_neg hz).trans (h1 k)
    · exact (if_neg (fun c => hp c.1)).trans ((if_neg hz).trans (h2 k))
    · exact (if_neg hz).trans (h3 k)
    · exact (if_neg hz).trans h4
theorem NWF.rf {p : Nat} {F : FW} : NWF p 0 F F := ⟨rfl, fun _ _ _ => ⟨fun _ => rfl, fun _ => rfl, fun _ => rfl, rfl⟩⟩
/-- the fields of p refer to the n places behind it -/
def OR_ (G : FW) (p n : Nat) : Prop := ∀ j, j < n → G.2.1 p j = .ref (p + 1 + j)
theorem OR_.st {p n k : Nat} {F G : FW} (w : NWF p n F G) (hz : F.2.2.2.1 = p + 1) (h : OR_ G p n) : OR_ (fpr (fnw G k) p n (.ref G.2.2.2.1)) p (n + 1) := fun j hj => by
  have e : G.2.2.2.1 = p + 1 + n := by
    rw [w.1, hz]
  by_cases c : j = n
  · subst c
    exact (if_pos ⟨rfl, rfl⟩).trans (congrArg Value.ref e)
  · exact (if_neg (fun q => c q.2)).trans ((if_neg (by rw [e]; omega)).trans (h j (by omega)))
theorem NWF.i {p n k : Nat} {v : Int32} {F G : FW} (h : NWF p n F G) : NWF p n F (fp G p k v) := ⟨h.1, fun a ha hp => by
  obtain ⟨h1, h2, h3, h4⟩ := h.2 a ha hp
  exact ⟨fun j => (fp_ne (Or.inl hp)).trans (h1 j), h2, h3, h4⟩⟩
theorem fpr_eq {F : FW} {a k : Nat} {v : Value} : (fpr F a k v).2.1 a k = v := if_pos ⟨rfl, rfl⟩
theorem fpr_ne {F : FW} {a k p j : Nat} {v : Value} (h : p ≠ a ∨ j ≠ k) : (fpr F a k v).2.1 p j = F.2.1 p j := if_neg (fun c => h.elim (fun h => h c.1) (fun h => h c.2))
theorem Pv.aastk {T : Nat → Option ab_A} {N i j : Nat} {lo : List (Option Value)} {st : List Value} {F : FW} {Q : Option Value → FW → Prop} {t ci a v k : Nat} {x : Int32} (hT : T i = some (ab_nx j (ab_aast t ci))) (hx : x.toNatClampNeg = k) (h : Pv T N j lo st (fpr F a k (.ref v)) Q) : Pv T N i lo (.ref v :: .int x :: .ref a :: st) F Q := by
  subst hx
  exact Pv.aast hT h
theorem ifn {p q : Prop} [Decidable p] [Decidable q] {a b : Nat} (h : p ↔ q) : (if p then a else b) = if q then a else b := by
  by_cases c : p
  · rw [if_pos c, if_pos (h.mp c)]
  · rw [if_neg c, if_neg (fun e => c (h.mpr e))]
theorem SHR.sm {F G : FW} {p m : Nat} {S : Sh} (h : SHR F p m S) (x : ∀ a k, p ≤ a → a ≤ p + 7 → G.1 a k = F.1 a k) (y : ∀ k, G.2.1 p k = F.2.1 p k) : SHR G p m S :=
  ⟨fun j hj => (y j).trans (h.o j hj), h.db, fun j hj => (x _ _ (by omega) (by omega)).trans (h.s j hj), fun j hj => (x _ _ (by omega) (by omega)).trans (h.h j hj), fun j hj => (x _ _ (by omega) (by omega)).trans (h.u j hj), fun j hj => (x _ _ (by omega) (by omega)).trans (h.c j hj), fun j hj => (x _ _ (by omega) (by omega)).trans (h.a j hj), fun j hj => (x _ _ (by omega) (by omega)).trans (h.t j hj), fun j hj => (x _ _ (by omega) (by omega)).trans (h.p j hj),
   (x _ _ (by omega) (by omega)).trans h.d, (x _ _ (by omega) (by omega)).trans h.i, (x _ _ (by omega) (by omega)).trans h.r⟩
/-- a state kept in a new place -/
def KBF (F F' : FW) (m : Nat) : Prop := F'.2.2.2.1 = F.2.2.2.1 + 8 ∧ F'.1 10 1 = Int32.ofNat (m + 1) ∧ F'.2.1 11 m = .ref F.2.2.2.1 ∧ (∀ a k, a < F.2.2.2.1 → a ≠ 10 → F'.1 a k = F.1 a k) ∧ (∀ a k, a < F.2.2.2.1 → ¬ (a = 11 ∧ k = m) → F'.2.1 a k = F.2.1 a k) ∧ ∀ a k, a < F.2.2.2.1 → F'.2.2.1 a k = F.2.2.1 a k
theorem kbF {F G H K : FW} {z m : Nat} (hz : z = F.2.2.2.1) (fz : ∀ a, a < z → (∀ k, G.1 a k = F.1 a k) ∧ (∀ k, G.2.1 a k = F.2.1 a k) ∧ (∀ k, G.2.2.1 a k = F.2.2.1 a k)) (gz : G.2.2.2.1 = z + 8) (hH : H = fpr G 11 m (.ref z)) (x : FX (fun q => z ≤ q ∧ q ≤ z + 7) H K) : KBF F (fp K 10 1 (Int32.ofNat (m + 1))) m := by
  subst hz hH
  refine ⟨?_, fp_eq, ?_, fun a k ha h10 => ?_, fun a k ha hn => ?_, fun a k ha => ?_⟩
  · show K.2.2.2.1 = _
    rw [x.2.2.2]
    exact gz
  · show K.2.1 11 m = _
    rw [x.2.2.1]
    exact fpr_eq
  · exact (fp_ne (Or.inl h10)).trans ((x.1 a k (by omega)).trans ((fz a ha).1 k))
  · show K.2.1 a k = _
    rw [x.2.2.1]
    exact (if_neg hn).trans ((fz a ha).2.1 k)
  · exact (x.2.1 a k (by omega)).trans ((fz a ha).2.2 k)
end
-- 63.b58.init.lean.txt
section
set_option maxRecDepth 100000 in
set_option maxHeartbeats 4000000 in
theorem f_x6_init {F : FW} {p : Nat} (hz : F.2.2.2.1 = p + 1) : Pm Z_X6_init [.ref p] F (fun r F' => r = none ∧ NWF p 7 F F' ∧ OR_ F' p 7) := by
  refine Pm.of fun N => ?_
  obtain ⟨Q, hQ⟩ : ∃ Q : Option Value → FW → Prop, Q = (fun r F' => r = none ∧ NWF p 7 F F' ∧ OR_ F' p 7) := ⟨_, rfl⟩
  rw [← hQ]
  refine (show Pv (ab_T L_X6_init) N 0 [some (.ref p)] [] F Q from ?_)
  refine Pv.aload rfl rfl ?_
  refine Pv.obj rfl ?_
  have w0 : NWF p 0 F F := NWF.rf
  have o0 : OR_ F p 0 := fun j hj => absurd hj (Nat.not_lt_zero j)
  refine Pv.aload rfl rfl ?_
  refine Pv.lit rfl ?_
  refine Pv.newa (k := 12) rfl rfl ?_
  refine Pv.putR rfl rfl (Or.inr ⟨_, rfl⟩) ?_
  have w1 := NWF.st (k := 12) (j := 0) w0
  have o1 := OR_.st (k := 12) w0 hz o0
  generalize fpr (fnw F 12) p 0 (.ref F.2.2.2.1) = G1 at w1 o1 ⊢
  refine Pv.aload rfl rfl ?_
  refine Pv.lit rfl ?_
  refine Pv.newa (k := 12) rfl rfl ?_
  refine Pv.putR rfl rfl (Or.inr ⟨_, rfl⟩) ?_
  have w2 := NWF.st (k := 12) (j := 1) w1
  have o2 := OR_.st (k := 12) w1 hz o1
  generalize fpr (fnw G1 12) p 1 (.ref G1.2.2.2.1) = G2 at w2 o2 ⊢
  refine Pv.aload rfl rfl ?_
  refine Pv.lit rfl ?_
  refine Pv.newa (k := 12) rfl rfl ?_
  refine Pv.putR rfl rfl (Or.inr ⟨_, rfl⟩) ?_
  have w3 := NWF.st (k := 12) (j := 2) w2
  have o3 := OR_.st (k := 12) w2 hz o2
  generalize fpr (fnw G2 12) p 2 (.ref G2.2.2.2.1) = G3 at w3 o3 ⊢
  refine Pv.aload rfl rfl ?_
  refine Pv.lit rfl ?_
  refine Pv.newa (k := 12) rfl rfl ?_
  refine Pv.putR rfl rfl (Or.inr ⟨_, rfl⟩) ?_
  have w4 := NWF.st (k := 12) (j := 3) w3
  have o4 := OR_.st (k := 12) w3 hz o3
  generalize fpr (fnw G3 12) p 3 (.ref G3.2.2.2.1) = G4 at w4 o4 ⊢
  refine Pv.aload rfl rfl ?_
  refine Pv.lit rfl ?_
  refine Pv.newa (k := 8) rfl rfl ?_
  refine Pv.putR rfl rfl (Or.inr ⟨_, rfl⟩) ?_
  have w5 := NWF.st (k := 8) (j := 4) w4
  have o5 := OR_.st (k := 8) w4 hz o4
  generalize fpr (fnw G4 8) p 4 (.ref G4.2.2.2.1) = G5 at w5 o5 ⊢
  refine Pv.aload rfl rfl ?_
  refine Pv.lit rfl ?_
  refine Pv.newa (k := 8) rfl rfl ?_
  refine Pv.putR rfl rfl (Or.inr ⟨_, rfl⟩) ?_
  have w6 := NWF.st (k := 8) (j := 5) w5
  have o6 := OR_.st (k := 8) w5 hz o5
  generalize fpr (fnw G5 8) p 5 (.ref G5.2.2.2.1) = G6 at w6 o6 ⊢
  refine Pv.aload rfl rfl ?_
  refine Pv.lit rfl ?_
  refine Pv.newa (k := 64) rfl rfl ?_
  refine Pv.putR rfl rfl (Or.inr ⟨_, rfl⟩) ?_
  have w7 := NWF.st (k := 64) (j := 6) w6
  have o7 := OR_.st (k := 64) w6 hz o6
  generalize fpr (fnw G6 64) p 6 (.ref G6.2.2.2.1) = G7 at w7 o7 ⊢
  exact Pv.vret rfl (by rw [hQ]; exact ⟨rfl, w7, o7⟩)
set_option maxRecDepth 100000 in
set_option maxHeartbeats 4000000 in
theorem f_x7_init {F : FW} {p : Nat} (hz : F.2.2.2.1 = p + 1) : Pm Z_X7_init [.ref p] F (fun r F' => r = none ∧ NWF p 7 F F' ∧ OR_ F' p 7) := by
  refine Pm.of fun N => ?_
  obtain ⟨Q, hQ⟩ : ∃ Q : Option Value → FW → Prop, Q = (fun r F' => r = none ∧ NWF p 7 F F' ∧ OR_ F' p 7) := ⟨_, rfl⟩
  rw [← hQ]
  refine (show Pv (ab_T L_X7_init) N 0 [some (.ref p)] [] F Q from ?_)
  refine Pv.aload rfl rfl ?_
  refine Pv.obj rfl ?_
  have w0 : NWF p 0 F F := NWF.rf
  have o0 : OR_ F p 0 := fun j hj => absurd hj (Nat.not_lt_zero j)
  refine Pv.aload rfl rfl ?_
  refine Pv.lit rfl ?_
  refine Pv.newl (k := 6) rfl rfl ?_
  refine Pv.putR rfl rfl (Or.inr ⟨_, rfl⟩) ?_
  have w1 := NWF.st (k := 6) (j := 0) w0
  have o1 := OR_.st (k := 6) w0 hz o0
  generalize fpr (fnw F 6) p 0 (.ref F.2.2.2.1) = G1 at w1 o1 ⊢
  refine Pv.aload rfl rfl ?_
  refine Pv.lit rfl ?_
  refine Pv.newl (k := 8) rfl rfl ?_
  refine Pv.putR rfl rfl (Or.inr ⟨_, rfl⟩) ?_
  have w2 := NWF.st (k := 8) (j := 1) w1
  have o2 := OR_.st (k := 8) w1 hz o1
  generalize fpr (fnw G1 8) p 1 (.ref G1.2.2.2.1) = G2 at w2 o2 ⊢
  refine Pv.aload rfl rfl ?_
  refine Pv.lit rfl ?_
  refine Pv.newa (k := 8) rfl rfl ?_
  refine Pv.putR rfl rfl (Or.inr ⟨_, rfl⟩) ?_
  have w3 := NWF.st (k := 8) (j := 2) w2
  have o3 := OR_.st (k := 8) w2 hz o2
  generalize fpr (fnw G2 8) p 2 (.ref G2.2.2.2.1) = G3 at w3 o3 ⊢
  refine Pv.aload rfl rfl ?_
  refine Pv.lit rfl ?_
  refine Pv.newa (k := 48) rfl rfl ?_
  refine Pv.putR rfl rfl (Or.inr ⟨_, rfl⟩) ?_
  have w4 := NWF.st (k := 48) (j := 3) w3
  have o4 := OR_.st (k := 48) w3 hz o3
  generalize fpr (fnw G3 48) p 3 (.ref G3.2.2.2.1) = G4 at w4 o4 ⊢
  refine Pv.aload rfl rfl ?_
  refine Pv.lit rfl ?_
  refine Pv.newa (k := 20) rfl rfl ?_
  refine Pv.putR rfl rfl (Or.inr ⟨_, rfl⟩) ?_
  have w5 := NWF.st (k := 20) (j := 4) w4
  have o5 := OR_.st (k := 20) w4 hz o4
  generalize fpr (fnw G4 20) p 4 (.ref G4.2.2.2.1) = G5 at w5 o5 ⊢
  refine Pv.aload rfl rfl ?_
  refine Pv.lit rfl ?_
  refine Pv.newa (k := 20) rfl rfl ?_
  refine Pv.putR rfl rfl (Or.inr ⟨_, rfl⟩) ?_
  have w6 := NWF.st (k := 20) (j := 5) w5
  have o6 := OR_.st (k := 20) w5 hz o5
  generalize fpr (fnw G5 20) p 5 (.ref G5.2.2.2.1) = G6 at w6 o6 ⊢
  refine Pv.aload rfl rfl ?_
  refine Pv.lit rfl ?_
  refine Pv.newa (k := 20) rfl rfl ?_
  refine Pv.putR rfl rfl (Or.inr ⟨_, rfl⟩) ?_
  have w7 := NWF.st (k := 20) (j := 6) w6
  have o7 := OR_.st (k := 20) w6 hz o6
  generalize fpr (fnw G6 20) p 6 (.ref G6.2.2.2.1) = G7 at w7 o7 ⊢
  refine Pv.aload rfl rfl ?_
  refine Pv.lit rfl ?_
  refine Pv.putI rfl rfl ?_
  exact Pv.vret rfl (by rw [hQ]; exact ⟨rfl, NWF.i w7, o7⟩)
set_option maxRecDepth 100000 in
set_option maxHeartbeats 4000000 in
theorem f_x5_init {F : FW} {p : Nat} (hz : F.2.2.2.1 = p + 1) : Pm Z_X5_init [.ref p] F (fun r F' => r = none ∧ NWF p 3 F F' ∧ OR_ F' p 3) := by
  refine Pm.of fun N => ?_
  obtain ⟨Q, hQ⟩ : ∃ Q : Option Value → FW → Prop, Q = (fun r F' => r = none ∧ NWF p 3 F F' ∧ OR_ F' p 3) := ⟨_, rfl⟩
  rw [← hQ]
  refine (show Pv (ab_T L_X5_init) N 0 [some (.ref p)] [] F Q from ?_)
  refine Pv.aload rfl rfl ?_
  refine Pv.obj rfl ?_
  have w0 : NWF p 0 F F := NWF.rf
  have o0 : OR_ F p 0 := fun j hj => absurd hj (Nat.not_lt_zero j)
  refine Pv.aload rfl rfl ?_
  refine Pv.lit rfl ?_
  refine Pv.newa (k := 40) rfl rfl ?_
  refine Pv.putR rfl rfl (Or.inr ⟨_, rfl⟩) ?_
  have w1 := NWF.st (k := 40) (j := 0) w0
  have o1 := OR_.st (k := 40) w0 hz o0
  generalize fpr (fnw F 40) p 0 (.ref F.2.2.2.1) = G1 at w1 o1 ⊢
  refine Pv.aload rfl rfl ?_
  refine Pv.lit rfl ?_
  refine Pv.newa (k := 40) rfl rfl ?_
  refine Pv.putR rfl rfl (Or.inr ⟨_, rfl⟩) ?_
  have w2 := NWF.st (k := 40) (j := 1) w1
  have o2 := OR_.st (k := 40) w1 hz o1
  generalize fpr (fnw G1 40) p 1 (.ref G1.2.2.2.1) = G2 at w2 o2 ⊢
  refine Pv.aload rfl rfl ?_
  refine Pv.lit rfl ?_
  refine Pv.newa (k := 40) rfl rfl ?_
  refine Pv.putR rfl rfl (Or.inr ⟨_, rfl⟩) ?_
  have w3 := NWF.st (k := 40) (j := 2) w2
  have o3 := OR_.st (k := 40) w2 hz o2
  generalize fpr (fnw G2 40) p 2 (.ref G2.2.2.2.1) = G3 at w3 o3 ⊢
  exact Pv.vret rfl (by rw [hQ]; exact ⟨rfl, w3, o3⟩)
end
-- 63.b59.hi.lean.txt
section
set_option maxRecDepth 100000 in
set_option maxHeartbeats 4000000 in
theorem f_dropOldest {F : FW} {q : Nat → Nat} (hG : GW F) (hq : ∀ j, j < 8 → F.2.1 11 j = .ref (q j)) : Pm Z_X2_dropOldest [.ref 10] F (fun r F' => r = none ∧ F'.1 = (fp F 10 1 7).1 ∧ F'.2.2 = F.2.2 ∧ (∀ a j, a ≠ 11 → F'.2.1 a j = F.2.1 a j) ∧ ∀ j, j < 8 → F'.2.1 11 j = .ref (if j < 7 then q (j + 1) else q 0)) := by
  refine Pm.of fun N => ?_
  obtain ⟨Q, hQ⟩ : ∃ Q : Option Value → FW → Prop, Q = (fun r F' => r = none ∧ F'.1 = (fp F 10 1 7).1 ∧ F'.2.2 = F.2.2 ∧ (∀ a j, a ≠ 11 → F'.2.1 a j = F.2.1 a j) ∧ ∀ j, j < 8 → F'.2.1 11 j = .ref (if j < 7 then q (j + 1) else q 0)) := ⟨_, rfl⟩
  rw [← hQ]
  refine (show Pv (ab_T L_X2_dropOldest) N 0 [some (.ref 10), none, none] [] F Q from ?_)
  refine Pv.aload rfl rfl ?_
  refine Pv.getR (v := .ref 11) rfl rfl (GW.at (a := 10) (k := 0) (b := 11) hG (by decide)) ?_
  refine Pv.lit rfl ?_
  refine Pv.aald (v := .ref (q 0)) rfl (hq 0 (by omega)) ?_
  refine Pv.astore (lo' := [some (.ref 10), some (.ref (q 0)), none]) rfl rfl ?_
  refine Pv.lit rfl ?_
  refine Pv.istore (lo' := [some (.ref 10), some (.ref (q 0)), some (.int 1)]) rfl rfl ?_
  refine Pv.lp (ι := Nat × FW) (lof := fun ⟨k, G⟩ => [some (.ref 10), some (.ref (q 0)), some (.int (Int32.ofNat k))]) (Ff := fun ⟨k, G⟩ => G) (P := fun ⟨k, G⟩ => 1 ≤ k ∧ k ≤ 8 ∧ G.1 = F.1 ∧ G.2.2 = F.2.2 ∧ (∀ a j, a ≠ 11 → G.2.1 a j = F.2.1 a j) ∧ ∀ j, j < 8 → G.2.1 11 j = .ref (if j + 1 < k then q (j + 1) else q j)) ?_ (1, F) (⟨Nat.le_refl _, by omega, rfl, rfl, fun _ _ _ => rfl, fun j hj => (hq j hj).trans (congrArg Value.ref (if_neg (by omega)).symm)⟩)
  rintro N1 hN2 ⟨k, G⟩ hi3 ih4
  refine (show Pv _ _ 9 [some (.ref 10), some (.ref (q 0)), some (.int (Int32.ofNat k))] [] G Q from ?_)
  obtain ⟨hk, hk8, hC, hE, hB, hA⟩ := hi3
  have hx5 : G.2.1 10 0 = .ref 11 := (hB 10 0 (by decide)).trans (GW.at (a := 10) (k := 0) (b := 11) hG (by decide))
  refine Pv.iloadS rfl rfl ?_
  refine Pv.lit rfl ?_
  refine Pv.icmp rfl (fun c6 => ?_) (fun c6 => ?_)
  · skip
    replace c6 := (i_le (a := 8) (b := k) (by omega) (by omega)).mp (of_decide_eq_true c6)
    refine Pv.aload rfl rfl ?_
    refine Pv.getR (v := .ref 11) rfl rfl (hx5) ?_
    refine Pv.lit rfl ?_
    refine Pv.aload rfl rfl ?_
    refine Pv.aastk (k := 7) rfl (rfl) ?_
    refine Pv.aload rfl rfl ?_
    refine Pv.lit rfl ?_
    refine Pv.putI rfl rfl ?_
    exact Pv.vret rfl (by rw [hQ]; exact ⟨rfl, by show (fp _ 10 1 7).1 = _; unfold fp; dsimp only; rw [show (fpr G 11 7 (.ref (q 0))).1 = F.1 from hC], hE, fun a j c => (fpr_ne (Or.inl c)).trans (hB a j c), fun j hj => Or.elim (Classical.em (j = 7)) (fun e => by rw [e]; exact fpr_eq) (fun e => (fpr_ne (Or.inr e)).trans ((hA j hj).trans (congrArg Value.ref ((if_pos (by omega)).trans (if_pos (by omega)).symm))))⟩)
  · skip
    replace c6 := mt (i_le (a := 8) (b := k) (by omega) (by omega)).mpr (of_decide_eq_false c6)
    refine Pv.aload rfl rfl ?_
    refine Pv.getR (v := .ref 11) rfl rfl (hx5) ?_
    refine Pv.iload rfl rfl ?_
    refine Pv.lit rfl ?_
    refine Pv.bin (z := Int32.ofNat (k - 1)) rfl (i_subN (a := k) (b := 1) (by omega)) ?_
    refine Pv.aload rfl rfl ?_
    refine Pv.getR (v := .ref 11) rfl rfl (hx5) ?_
    refine Pv.iload rfl rfl ?_
    refine Pv.aald (v := .ref (q k)) rfl (by rw [i_toNat (by omega)]; exact (hA k (by omega)).trans (congrArg Value.ref (if_neg (by omega)))) ?_
    refine Pv.aastk (k := k - 1) rfl (i_toNat (by omega)) ?_
    refine Pv.iinc (y := Int32.ofNat (k + 1)) (lo' := [some (.ref 10), some (.ref (q 0)), some (.int (Int32.ofNat (k + 1)))]) rfl rfl (i_add k 1) rfl ?_
    refine Pv.goto rfl ?_
    exact ih4 (k + 1, (fpr G 11 (k - 1) (.ref (q k)))) (⟨by omega, by omega, hC, hE, fun a j c => (fpr_ne (Or.inl c)).trans (hB a j c), fun j hj => Or.elim (Classical.em (j = k - 1)) (fun e => by rw [e]; exact fpr_eq.trans (congrArg Value.ref (by rw [if_pos (by omega), show k - 1 + 1 = k by omega]))) (fun e => (fpr_ne (Or.inr e)).trans ((hA j hj).trans (congrArg Value.ref (ifn (by omega)))))⟩)
set_option maxRecDepth 100000 in
set_option maxHeartbeats 4000000 in
theorem f_forget {F : FW} : Pm Z_X2_forget [.ref 10] F (fun r F' => r = none ∧ F' = fp F 10 1 0) := by
  refine Pm.of fun N => ?_
  obtain ⟨Q, hQ⟩ : ∃ Q : Option Value → FW → Prop, Q = (fun r F' => r = none ∧ F' = fp F 10 1 0) := ⟨_, rfl⟩
  rw [← hQ]
  refine (show Pv (ab_T L_X2_forget) N 0 [some (.ref 10)] [] F Q from ?_)
  refine Pv.aload rfl rfl ?_
  refine Pv.lit rfl ?_
  refine Pv.putI rfl rfl ?_
  exact Pv.vret rfl (by rw [hQ]; exact ⟨rfl, rfl⟩)
set_option maxRecDepth 100000 in
set_option maxHeartbeats 4000000 in
theorem f_keepA {F : FW} {m mm v : Nat} {S : Sh} (h10 : F.2.1 10 0 = .ref 11) (hn : F.1 10 1 = Int32.ofNat m) (hm : m < 8) (hv : F.2.1 11 m = .ref v) (hS : SHR F 12 mm S) (hmm : mm ≤ 8) (hO : O7 F v) (h88 : 88 ≤ v) (N : Nat) : Pv (ab_T (L_X2_keep Z_X2_dropOldest Z_X6_init Z_X6_copyFrom)) N 13 [some (.ref 10), some (.ref 12), none] [] F (fun r F' => r = none ∧ FX (fun q => (v ≤ q ∧ q ≤ v + 7) ∨ q = 10) F F' ∧ SHR F' v mm S ∧ F'.1 10 1 = Int32.ofNat (m + 1)) := by
  obtain ⟨Q, hQ⟩ : ∃ Q : Option Value → FW → Prop, Q = (fun r F' => r = none ∧ FX (fun q => (v ≤ q ∧ q ≤ v + 7) ∨ q = 10) F F' ∧ SHR F' v mm S ∧ F'.1 10 1 = Int32.ofNat (m + 1)) := ⟨_, rfl⟩
  rw [← hQ]
  refine (show Pv (ab_T (L_X2_keep Z_X2_dropOldest Z_X6_init Z_X6_copyFrom)) N 13 [some (.ref 10), some (.ref 12), none] [] F Q from ?_)
  refine Pv.aload rfl rfl ?_
  refine Pv.getR (v := .ref 11) rfl rfl (h10) ?_
  refine Pv.aload rfl rfl ?_
  refine Pv.getI (z := Int32.ofNat m) rfl rfl (hn) ?_
  refine Pv.aald (v := .ref v) rfl (by rw [i_toNat (by omega)]; exact hv) ?_
  refine Pv.astore (lo' := [some (.ref 10), some (.ref 12), some (.ref v)]) rfl rfl ?_
  refine Pv.aload rfl rfl ?_
  refine Pv.nonnullR rfl ?_
  refine Pv.aload rfl rfl ?_
  refine Pv.aload rfl rfl ?_
  refine Pv.callV (as := [.ref v, .ref 12]) (rest := []) rfl rfl rfl (f_shCopy hO hS hmm (by omega)) ?_
  rintro _ G1 ⟨rfl, x2, sr4⟩
  have hx3 := FX.tr (P := fun q => (v ≤ q ∧ q ≤ v + 7) ∨ q = 10) FX.rf (x2.wd (fun q (c : v ≤ q ∧ q ≤ v + 7) => (show (v ≤ q ∧ q ≤ v + 7) ∨ q = 10 by omega)))
  have hx5 := hS.fx (P := fun q => v ≤ q ∧ q ≤ v + 7) x2 (fun q h1 h2 (c : v ≤ q ∧ q ≤ v + 7) => by omega)
  have hr6 : G1.2.1 10 0 = .ref 11 := by rw [x2.2.2.1]; exact h10
  refine (show Pv _ _ 50 [some (.ref 10), some (.ref 12), some (.ref v)] [] G1 Q from ?_)
  refine Pv.aload rfl rfl ?_
  refine Pv.dup rfl ?_
  refine Pv.getI (z := Int32.ofNat m) rfl rfl ((x2.1 10 1 (by omega)).trans hn) ?_
  refine Pv.lit rfl ?_
  refine Pv.bin (z := Int32.ofNat (m + 1)) rfl (i_add m 1) ?_
  refine Pv.putI rfl rfl ?_
  exact Pv.vret rfl (by rw [hQ]; exact ⟨rfl, (hx3).fp (show (v ≤ 10 ∧ 10 ≤ v + 7) ∨ 10 = 10 by omega), (sr4.fx (P := fun q => q = 10) (((FX.rf (P := fun q => q = 10))).fp rfl) (fun q h1 h2 (c : q = 10) => by omega)), fp_eq⟩)
set_option maxRecDepth 100000 in
set_option maxHeartbeats 4000000 in
theorem f_keepB {F : FW} {m mm : Nat} {S : Sh} (h10 : F.2.1 10 0 = .ref 11) (hn : F.1 10 1 = Int32.ofNat m) (hm : m < 8) (hv : F.2.1 11 m = .null) (hS : SHR F 12 mm S) (hmm : mm ≤ 8) (h88 : 88 ≤ F.2.2.2.1) (N : Nat) : Pv (ab_T (L_X2_keep Z_X2_dropOldest Z_X6_init Z_X6_copyFrom)) N 13 [some (.ref 10), some (.ref 12), none] [] F (fun r F' => r = none ∧ SHR F' F.2.2.2.1 mm S ∧ KBF F F' m) := by
  obtain ⟨Q, hQ⟩ : ∃ Q : Option Value → FW → Prop, Q = (fun r F' => r = none ∧ SHR F' F.2.2.2.1 mm S ∧ KBF F F' m) := ⟨_, rfl⟩
  rw [← hQ]
  refine (show Pv (ab_T (L_X2_keep Z_X2_dropOldest Z_X6_init Z_X6_copyFrom)) N 13 [some (.ref 10), some (.ref 12), none] [] F Q from ?_)
  refine Pv.aload rfl rfl ?_
  refine Pv.getR (v := .ref 11) rfl rfl (h10) ?_
  refine Pv.aload rfl rfl ?_
  refine Pv.getI (z := Int32.ofNat m) rfl rfl (hn) ?_
  refine Pv.aald (v := .null) rfl (by rw [i_toNat (by omega)]; exact hv) ?_
  refine Pv.astoreN (lo' := [some (.ref 10), some (.ref 12), some (.null)]) rfl rfl ?_
  refine Pv.aloadN rfl rfl ?_
  refine Pv.nonnullN rfl ?_
  refine Pv.new rfl (by decide) (by decide) ?_
  refine (show Pv _ _ 30 [some (.ref 10), some (.ref 12), some (.null)] [.ref F.2.2.2.1] (fnw F 0) Q from ?_)
  refine Pv.dup rfl ?_
  refine Pv.call (as := [.ref F.2.2.2.1]) (rest := [.ref F.2.2.2.1]) rfl rfl rfl (f_x6_init (F := fnw F 0) (p := F.2.2.2.1) rfl) ?_
  rintro _ G ⟨rfl, w, o⟩
  obtain ⟨z, hz⟩ : ∃ z, z = F.2.2.2.1 := ⟨_, rfl⟩
  rw [← hz] at w o ⊢
  rw [← hz] at h88
  have fz : ∀ a, a < z → (∀ k, G.1 a k = F.1 a k) ∧ (∀ k, G.2.1 a k = F.2.1 a k) ∧ (∀ k, G.2.2.1 a k = F.2.2.1 a k) := fun a ha => by
    obtain ⟨x1, x2, x3, -⟩ := w.2 a (by show a < F.2.2.2.1 + 1; omega) (by omega)
    exact ⟨fun k => (x1 k).trans (if_neg (by omega)), fun k => (x2 k).trans (if_neg (by omega)), fun k => (x3 k).trans (if_neg (by omega))⟩
  have gz : G.2.2.2.1 = z + 8 := w.1.trans (by show F.2.2.2.1 + 1 + 7 = _; omega)
  refine (show Pv _ _ 34 [some (.ref 10), some (.ref 12), some (.null)] [.ref z] G Q from ?_)
  refine Pv.astore (lo' := [some (.ref 10), some (.ref 12), some (.ref z)]) rfl rfl ?_
  refine Pv.aload rfl rfl ?_
  refine Pv.getR (v := .ref 11) rfl rfl (((fz 10 (by omega)).2.1 0).trans h10) ?_
  refine Pv.aload rfl rfl ?_
  refine Pv.getI (z := Int32.ofNat m) rfl rfl (((fz 10 (by omega)).1 1).trans hn) ?_
  refine Pv.aload rfl rfl ?_
  refine Pv.aastk (k := m) rfl (i_toNat (by omega)) ?_
  have hS2 : SHR (fpr G 11 m (.ref z)) 12 mm S := hS.sm (fun a k h1 h2 => (fz a (by omega)).1 k) (fun k => (fpr_ne (Or.inl (by decide))).trans ((fz 12 (by omega)).2.1 k))
  have hO2 : O7 (fpr G 11 m (.ref z)) z := fun j hj => (fpr_ne (Or.inl (by omega))).trans (o j hj)
  obtain ⟨H, hH⟩ : ∃ H, H = (fpr G 11 m (.ref z)) := ⟨_, rfl⟩
  rw [← hH] at hS2 hO2 ⊢
  refine Pv.aload rfl rfl ?_
  refine Pv.aload rfl rfl ?_
  refine Pv.callV (as := [.ref z, .ref 12]) (rest := []) rfl rfl rfl (f_shCopy hO2 hS2 hmm (by omega)) ?_
  rintro _ G1 ⟨rfl, x2, sr4⟩
  have hx3 := FX.tr (P := fun q => (z ≤ q ∧ q ≤ z + 7) ∨ q = 10) FX.rf (x2.wd (fun q (c : z ≤ q ∧ q ≤ z + 7) => (show (z ≤ q ∧ q ≤ z + 7) ∨ q = 10 by omega)))
  have hx5 := hS2.fx (P := fun q => z ≤ q ∧ q ≤ z + 7) x2 (fun q h1 h2 (c : z ≤ q ∧ q ≤ z + 7) => by omega)
  refine (show Pv _ _ 50 [some (.ref 10), some (.ref 12), some (.ref z)] [] G1 Q from ?_)
  refine Pv.aload rfl rfl ?_
  refine Pv.dup rfl ?_
  refine Pv.getI (z := Int32.ofNat m) rfl rfl ((x2.1 10 1 (by omega)).trans (show H.1 10 1 = _ by rw [hH]; exact ((fz 10 (by omega)).1 1).trans hn)) ?_
  refine Pv.lit rfl ?_
  refine Pv.bin (z := Int32.ofNat (m + 1)) rfl (i_add m 1) ?_
  refine Pv.putI rfl rfl ?_
  exact Pv.vret rfl (by rw [hQ]; exact ⟨rfl, by rw [← hz]; exact (sr4.fx (P := fun q => q = 10) (((FX.rf (P := fun q => q = 10))).fp rfl) (fun q h1 h2 (c : q = 10) => by omega)), kbF hz fz gz hH x2⟩)
end
-- 63.b60.hist.lean.txt
section
/-! ===== what is kept of the past: the class ===== -/
theorem Pv.imp {T : Nat → Option ab_A} {N i : Nat} {lo : List (Option Value)} {st : List Value} {F : FW} {Q Q' : Option Value → FW → Prop} (h : Pv T N i lo st F Q) (g : ∀ r F', Q r F' → Q' r F') : Pv T N i lo st F Q' := fun f u hp o hf hw hF e => ⟨(h f u hp o hf hw hF e).1, g _ _ (h f u hp o hf hw hF e).2⟩
def SLT (F : FW) (a : Nat) : Prop := ∃ (j v : Nat), j < 8 ∧ F.2.1 11 j = .ref v ∧ v ≤ a ∧ a ≤ v + 7
def HW (F : FW) (c : Nat) (s : Nat → Nat) : Prop := c ≤ 8 ∧ (∀ j, j < c → F.2.1 11 j = .ref (s j) ∧ O7 F (s j) ∧ 88 ≤ s j ∧ s j + 8 ≤ F.2.2.2.1) ∧ (∀ j, c ≤ j → j < 8 → F.2.1 11 j = .null) ∧ ∀ i j, i < c → j < c → i ≠ j → s i + 7 < s j ∨ s j + 7 < s i
def HST (F : FW) (m n : Nat) (H : Nat → Sh) : Prop := ∃ c s, HW F c s ∧ n ≤ c ∧ F.1 10 1 = Int32.ofNat n ∧ ∀ j, j < n → SHR F (s j) m (H j)
def m_kn (n : Nat) : Nat := if n < 8 then n + 1 else 8
def m_kH (n : Nat) (H : Nat → Sh) (S : Sh) : Nat → Sh := fun j => if n < 8 then (if j < n then H j else S) else if j < 7 then H (j + 1) else S
/-- all but the history, and the places of P, is what it was; the heap may have grown -/
def KF (P : Nat → Prop) (F F' : FW) : Prop := F.2.2.2.1 ≤ F'.2.2.2.1 ∧ (∀ k, F'.2.1 10 k = F.2.1 10 k) ∧ (∀ a, a < F.2.2.2.1 → a ≠ 10 → a ≠ 11 → ¬ SLT F a → (∀ k, ¬ P a → F'.1 a k = F.1 a k) ∧ (∀ k, F'.2.1 a k = F.2.1 a k) ∧ ∀ k, ¬ P a → F'.2.2.1 a k = F.2.2.1 a k) ∧ ∀ a, SLT F' a → SLT F a ∨ F.2.2.2.1 ≤ a
theorem SLT.eq {F G : FW} (h : G.2.1 = F.2.1) {a : Nat} (s : SLT G a) : SLT F a := by
  obtain ⟨j, v, h1, h2, h3⟩ := s
  exact ⟨j, v, h1, by rw [← h]; exact h2, h3⟩
theorem KF.rf {P : Nat → Prop} {F : FW} : KF P F F := ⟨Nat.le_refl _, fun _ => rfl, fun _ _ _ _ _ => ⟨fun _ _ => rfl, fun _ => rfl, fun _ _ => rfl⟩, fun _ h => Or.inl h⟩
theorem KF.fx {P R : Nat → Prop} {F G K : FW} (h : KF P F G) (x : FX R G K) (w : ∀ q, q ≠ 10 → R q → P q) : KF P F K := ⟨by rw [x.2.2.2]; exact h.1, fun k => by rw [x.2.2.1]; exact h.2.1 k, fun a ha h1 h2 h3 => ⟨fun k c => (x.1 a k (fun r => c (w a h1 r))).trans ((h.2.2.1 a ha h1 h2 h3).1 k c), fun k => by rw [x.2.2.1]; exact (h.2.2.1 a ha h1 h2 h3).2.1 k, fun k c => (x.2.1 a k (fun r => c (w a h1 r))).trans ((h.2.2.1 a ha h1 h2 h3).2.2 k c)⟩, fun a s => h.2.2.2 a (s.eq x.2.2.1)⟩
theorem KF.tr {P : Nat → Prop} {F G K : FW} (h : KF P F G) (x : KF P G K) : KF P F K := ⟨Nat.le_trans h.1 x.1, fun k => (x.2.1 k).trans (h.2.1 k), fun a ha h1 h2 h3 => by
  have p := h.2.2.1 a ha h1 h2 h3
  have q := x.2.2.1 a (Nat.lt_of_lt_of_le ha h.1) h1 h2 (fun c => (h.2.2.2 a c).elim h3 (fun z => absurd ha (by omega)))
  exact ⟨fun k c => (q.1 k c).trans (p.1 k c), fun k => (q.2.1 k).trans (p.2.1 k), fun k c => (q.2.2 k c).trans (p.2.2 k c)⟩, fun a s => (x.2.2.2 a s).elim (h.2.2.2 a) (fun z => Or.inr (Nat.le_trans h.1 z))⟩
theorem wires_lt : ∀ x ∈ wires, x.1 ≠ 11 ∧ x.1 < 88 := by decide
theorem HST.ns {F : FW} {m n : Nat} {H : Nat → Sh} (h : HST F m n H) {a : Nat} (ha : a < 88) : ¬ SLT F a := by
  rintro ⟨j, v, hj, e, h1, h2⟩
  obtain ⟨c, s, hW, -⟩ := h
  rcases Nat.lt_or_ge j c with q | q
  · have w := hW.2.1 j q
    rw [w.1] at e
    obtain rfl := Value.ref.inj e
    omega
  · have w := hW.2.2.1 j q hj
    rw [w] at e
    cases e
theorem KF.gw {P : Nat → Prop} {F G : FW} {m n : Nat} {H : Nat → Sh} (h : KF P F G) (hH : HST F m n H) (hG : GW F) (h88 : 88 ≤ F.2.2.2.1) : GW G := fun x mx => by
  have w := wires_lt x mx
  rcases Classical.em (x.1 = 10) with e | e
  · rw [e, h.2.1]
    have := hG x mx
    rw [e] at this
    exact this
  · exact ((h.2.2.1 x.1 (by omega) e w.1 (hH.ns w.2)).2.1 _).trans (hG x mx)
theorem KF.sh {F G : FW} {p m mm n : Nat} {S : Sh} {H : Nat → Sh} (h : KF (fun _ => False) F G) (hH : HST F mm n H) (hS : SHR F p m S) (h1 : 12 ≤ p) (h2 : p + 7 < 88) (h88 : 88 ≤ F.2.2.2.1) : SHR G p m S :=
  hS.sm (fun a k c1 c2 => (h.2.2.1 a (by omega) (by omega) (by omega) (hH.ns (by omega))).1 k id) (fun k => (h.2.2.1 p (by omega) (by omega) (by omega) (hH.ns (by omega))).2.1 k)
theorem f_keep13 {F : FW} {n mm c : Nat} {s : Nat → Nat} {S : Sh} {H : Nat → Sh} (h10 : F.2.1 10 0 = .ref 11) (hn : F.1 10 1 = Int32.ofNat n) (hm : n < 8) (hW : HW F c s) (hc : n ≤ c) (hH : ∀ j, j < n → SHR F (s j) mm (H j)) (hS : SHR F 12 mm S) (hmm : mm ≤ 8) (h88 : 88 ≤ F.2.2.2.1) (N : Nat) : Pv (ab_T (L_X2_keep Z_X2_dropOldest Z_X6_init Z_X6_copyFrom)) N 13 [some (.ref 10), some (.ref 12), none] [] F (fun r F' => r = none ∧ HST F' mm (n + 1) (fun j => if j < n then H j else S) ∧ KF (fun _ => False) F F') := by
  rcases Nat.lt_or_ge n c with h | h
  · have a := hW.2.1 n h
    refine (f_keepA h10 hn hm a.1 hS hmm a.2.1 a.2.2.1 N).imp ?_
    rintro r F' ⟨e, x, y, z⟩
    refine ⟨e, ⟨c, s, ⟨hW.1, fun j hj => ?_, fun j h1 h2 => by rw [x.2.2.1]; exact hW.2.2.1 j h1 h2, hW.2.2.2⟩, h, z, fun j hj => ?_⟩, by rw [x.2.2.2]; exact Nat.le_refl _, fun k => by rw [x.2.2.1], fun q hq h1 h2 h3 => ?_, fun a sa => Or.inl (sa.eq x.2.2.1)⟩
    · obtain ⟨b1, b2, b3, b4⟩ := hW.2.1 j hj
      exact ⟨by rw [x.2.2.1]; exact b1, x.O7 b2, b3, by rw [x.2.2.2]; exact b4⟩
    · dsimp only
      rcases Nat.lt_or_ge j n with q | q
      · rw [if_pos q]
        have d := hW.2.2.2 j n (by omega) h (by omega)
        have b := hW.2.1 j (by omega)
        exact (hH j q).fx x (fun w h1 h2 c1 => by omega)
      · rw [if_neg (by omega)]
        obtain rfl : j = n := by omega
        exact y
    · have g : ¬ ((s n ≤ q ∧ q ≤ s n + 7) ∨ q = 10) := fun c1 => c1.elim (fun c2 => h3 ⟨n, s n, hm, a.1, c2.1, c2.2⟩) h1
      exact ⟨fun k _ => x.1 q k g, fun k => by rw [x.2.2.1], fun k _ => x.2.1 q k g⟩
  · obtain rfl : c = n := by omega
    refine (f_keepB h10 hn hm (hW.2.2.1 c (Nat.le_refl _) hm) hS hmm h88 N).imp ?_
    rintro r F' ⟨e, y, g1, g2, g3, g4, g5, g6⟩
    have oj : ∀ j, j < c → s j ≠ 11 ∧ s j < F.2.2.2.1 := fun j hj => by
      have b := hW.2.1 j hj
      omega
    refine ⟨e, ⟨c + 1, fun j => if j < c then s j else F.2.2.2.1, ⟨by omega, fun j hj => ?_, fun j h1 h2 => (g5 11 j (by omega) (by omega)).trans (hW.2.2.1 j (by omega) h2), fun i j hi hj hij => ?_⟩, Nat.le_refl _, g2, fun j hj => ?_⟩, by omega, fun k => g5 10 k (by omega) (by omega), fun q hq h1 h2 h3 => ⟨fun k _ => g4 q k hq h1, fun k => g5 q k hq (by omega), fun k _ => g6 q k hq⟩, fun a sa => ?_⟩
    · dsimp only
      rcases Nat.lt_or_ge j c with q | q
      · rw [if_pos q]
        obtain ⟨b1, b2, b3, b4⟩ := hW.2.1 j q
        exact ⟨(g5 11 j (by omega) (by omega)).trans b1, fun i hi => (g5 _ _ (by omega) (by omega)).trans (b2 i hi), b3, by omega⟩
      · rw [if_neg (by omega)]
        obtain rfl : j = c := by omega
        exact ⟨g3, y.o, h88, by omega⟩
    · dsimp only
      rcases Nat.lt_or_ge i c with q | q <;> rcases Nat.lt_or_ge j c with q' | q'
      · rw [if_pos q, if_pos q']
        exact hW.2.2.2 i j q q' hij
      · rw [if_pos q, if_neg (by omega)]
        have b := hW.2.1 i q
        omega
      · rw [if_neg (by omega), if_pos q']
        have b := hW.2.1 j q'
        omega
      · omega
    · dsimp only
      rcases Nat.lt_or_ge j c with q | q
      · rw [if_pos q, if_pos q]
        have b := hW.2.1 j q
        exact (hH j q).sm (fun a k h1 h2 => g4 a k (by omega) (by omega)) (fun k => g5 _ k (by omega) (by omega))
      · rw [if_neg (by omega), if_neg (by omega)]
        exact y
    · obtain ⟨j, v, hj8, ev, h1, h2⟩ := sa
      rcases Classical.em (j = c) with q | q
      · rw [q, g3] at ev
        obtain rfl := Value.ref.inj ev
        exact Or.inr h1
      · rw [g5 11 j (by omega) (by omega)] at ev
        exact Or.inl ⟨j, v, hj8, ev, h1, h2⟩
theorem f_keep {F : FW} {n mm : Nat} {S : Sh} {H : Nat → Sh} (hG : GW F) (hH : HST F mm n H) (hS : SHR F 12 mm S) (hmm : mm ≤ 8) (h88 : 88 ≤ F.2.2.2.1) : Pm Z_X2_keep [.ref 10, .ref 12] F (fun r F' => r = none ∧ HST F' mm (m_kn n) (m_kH n H S) ∧ KF (fun _ => False) F F') := by
  refine Pm.of fun N => ?_
  refine (show Pv (ab_T (L_X2_keep Z_X2_dropOldest Z_X6_init Z_X6_copyFrom)) N 0 [some (.ref 10), some (.ref 12), none] [] F _ from ?_)
  obtain ⟨c, s, hW, hc, hn, hj⟩ := hH
  have hc8 := hW.1
  refine Pv.aload rfl rfl ?_
  refine Pv.getI (z := Int32.ofNat n) rfl rfl hn ?_
  refine Pv.lit rfl ?_
  refine Pv.icmp rfl (fun c6 => ?_) (fun c6 => ?_)
  · replace c6 := (i_lt (a := n) (b := 8) (by omega) (by omega)).mp (of_decide_eq_true c6)
    refine (f_keep13 (H := H) (GW.at (a := 10) (k := 0) (b := 11) hG (by decide)) hn (by omega) hW hc hj hS hmm h88 N).imp ?_
    rintro r F' ⟨e, y, z⟩
    refine ⟨e, ?_, z⟩
    unfold m_kn m_kH
    rw [if_pos (by omega)]
    rw [show (fun j => if n < 8 then (if j < n then H j else S) else if j < 7 then H (j + 1) else S) = fun j => if j < n then H j else S from funext fun j => if_pos (by omega)]
    exact y
  · replace c6 := mt (i_lt (a := n) (b := 8) (by omega) (by omega)).mpr (of_decide_eq_false c6)
    obtain rfl : n = 8 := by omega
    obtain rfl : c = 8 := by omega
    refine Pv.aload rfl rfl ?_
    refine Pv.callV (as := [.ref 10]) (rest := []) rfl rfl rfl (f_dropOldest (q := s) hG (fun j h => (hW.2.1 j h).1)) ?_
    rintro _ G ⟨rfl, x1, x2, x3, x4⟩
    have g1 : ∀ a k, a ≠ 10 → G.1 a k = F.1 a k := fun a k h => by
      rw [x1]
      exact fp_ne (Or.inl h)
    have hW' : HW G 8 (fun j => if j < 7 then s (j + 1) else s 0) := by
      refine ⟨Nat.le_refl _, fun j h => ⟨x4 j h, ?_⟩, fun j h1 h2 => by omega, fun i j hi hj hij => ?_⟩
      · rw [x2]
        dsimp only
        split
        · obtain ⟨-, b2, b3, b4⟩ := hW.2.1 (j + 1) (by omega)
          exact ⟨fun i hi => (x3 _ _ (by omega)).trans (b2 i hi), b3, b4⟩
        · obtain ⟨-, b2, b3, b4⟩ := hW.2.1 0 (by omega)
          exact ⟨fun i hi => (x3 _ _ (by omega)).trans (b2 i hi), b3, b4⟩
      · dsimp only
        have d1 := hW.2.2.2 (i + 1) (j + 1)
        have d2 := hW.2.2.2 (i + 1) 0
        have d3 := hW.2.2.2 0 (j + 1)
        split <;> split <;> omega
    refine (f_keep13 (n := 7) (H := fun j => H (j + 1)) ((x3 10 0 (by decide)).trans (GW.at (a := 10) (k := 0) (b := 11) hG (by decide))) (by rw [x1]; exact fp_eq) (by omega) hW' (by omega) (fun j h => ?_) (hS.sm (fun a k h1 h2 => g1 a k (by omega)) (fun k => x3 12 k (by decide))) hmm (by rw [x2]; exact h88) N).imp ?_
    · rw [if_pos h]
      have b := hW.2.1 (j + 1) (by omega)
      exact (hj (j + 1) (by omega)).sm (fun a k h1 h2 => g1 a k (by omega)) (fun k => x3 _ k (by omega))
    · rintro r F' ⟨e, y, z⟩
      have k0 : KF (fun _ => False) F G := by
        refine ⟨by rw [x2]; exact Nat.le_refl _, fun k => x3 10 k (by decide), fun a ha h1 h2 h3 => ⟨fun k _ => g1 a k h1, fun k => x3 a k h2, fun k _ => by rw [x2]⟩, ?_⟩
        rintro a ⟨j, v, hj8, ev, h1, h2⟩
        rw [x4 j hj8] at ev
        obtain rfl := Value.ref.inj ev
        refine Or.inl ?_
        rcases Nat.lt_or_ge j 7 with q | q
        · rw [if_pos q] at h1 h2
          exact ⟨j + 1, _, by omega, (hW.2.1 (j + 1) (by omega)).1, h1, h2⟩
        · rw [if_neg (by omega)] at h1 h2
          exact ⟨0, _, by omega, (hW.2.1 0 (by omega)).1, h1, h2⟩
      exact ⟨e, y, k0.tr z⟩
theorem KF.wide {P : Nat → Prop} {F G : FW} (h : KF (fun _ => False) F G) : KF P F G := ⟨h.1, h.2.1, fun a ha h1 h2 h3 => ⟨fun k _ => (h.2.2.1 a ha h1 h2 h3).1 k id, (h.2.2.1 a ha h1 h2 h3).2.1, fun k _ => (h.2.2.1 a ha h1 h2 h3).2.2 k id⟩, h.2.2.2⟩
theorem AR.sm {F G : FW} {a n : Nat} {f : Nat → Int32} (h : AR F a n f) (x : ∀ k, G.1 a k = F.1 a k) : AR G a n f := fun j hj => (x j).trans (h j hj)
theorem KF.st {F G : FW} {t mm n : Nat} {T : St} {H : Nat → Sh} (h : KF (fun _ => False) F G) (hH : HST F mm n H) (hT : TR F t T) (h1 : 12 ≤ t) (h2 : t + 7 < 88) (h88 : 88 ≤ F.2.2.2.1) : TR G t T := by
  have x : ∀ a, t ≤ a → a ≤ t + 7 → (∀ k, G.1 a k = F.1 a k) ∧ ∀ k, G.2.1 a k = F.2.1 a k := fun a c1 c2 =>
    ⟨fun k => (h.2.2.1 a (by omega) (by omega) (by omega) (hH.ns (by omega))).1 k id, fun k => (h.2.2.1 a (by omega) (by omega) (by omega) (hH.ns (by omega))).2.1 k⟩
  exact ⟨fun j hj => ((x t (by omega) (by omega)).2 j).trans (hT.o j hj), hT.w, ((x t (by omega) (by omega)).1 _).trans hT.l, ((x t (by omega) (by omega)).1 _).trans hT.g, ((x t (by omega) (by omega)).1 _).trans hT.m, ((x t (by omega) (by omega)).1 _).trans hT.n,
    hT.a.sm (x _ (by omega) (by omega)).1, hT.r.sm (x _ (by omega) (by omega)).1, hT.d.sm (x _ (by omega) (by omega)).1, hT.dd.sm (x _ (by omega) (by omega)).1, hT.f.sm (x _ (by omega) (by omega)).1⟩
theorem HST.fx {P : Nat → Prop} {F G : FW} {m n : Nat} {H : Nat → Sh} (h : HST F m n H) (x : FX P F G) (c : ∀ a, P a → a < 88 ∧ a ≠ 10) : HST G m n H := by
  obtain ⟨k, s, hW, h1, h2, h3⟩ := h
  have np : ∀ a, 88 ≤ a → ¬ P a := fun a ha q => by
    have := (c a q).1
    omega
  refine ⟨k, s, ⟨hW.1, fun j hj => ?_, fun j a b => by rw [x.2.2.1]; exact hW.2.2.1 j a b, hW.2.2.2⟩, h1, (x.1 10 1 (fun q => (c 10 q).2 rfl)).trans h2, fun j hj => ?_⟩
  · obtain ⟨b1, b2, b3, b4⟩ := hW.2.1 j hj
    exact ⟨by rw [x.2.2.1]; exact b1, x.O7 b2, b3, by rw [x.2.2.2]; exact b4⟩
  · have b := hW.2.1 j (by omega)
    exact (h3 j hj).fx x (fun a c1 c2 => np a (by omega))
theorem f_why {F : FW} {p m k n d : Nat} {S : Sh} (hS : SHR F p m S) (hk : k < 12) (hn : n < 1000) (hd : d < 3) : Pm Z_X6_whyNot [.ref p, .int (Int32.ofNat d), .int (Int32.ofNat k), .int (Int32.ofNat n)] F (fun r F' => r = some (.int (m_why d S k (Int32.ofNat n))) ∧ F' = F) :=
  match d, hd with
  | 0, _ => f_whyNot0 hS hk hn
  | 1, _ => f_whyNot1 hS hk hn
  | 2, _ => f_whyNot2 hS hk hn
  | d + 3, h => absurd h (by omega)
theorem f_perf {F : FW} {p m k n d : Nat} {S : Sh} (hS : SHR F p m S) (hk : k < 12) (hn : n < 1000) (hd : d < 3) : Pm Z_X6_perform [.ref p, .int (Int32.ofNat d), .int (Int32.ofNat k), .int (Int32.ofNat n)] F (fun r F' => r = none ∧ FX (fun q => p ≤ q ∧ q ≤ p + 7) F F' ∧ SHR F' p m (m_do d S k (Int32.ofNat n))) :=
  match d, hd with
  | 0, _ => f_perform0 hS hk hn
  | 1, _ => f_perform1 hS hk hn
  | 2, _ => f_perform2 hS hk hn
  | d + 3, h => absurd h (by omega)
/-! what is done: the answer, and what is so then -/
def a_act (d : Nat) (T : St) (S : Sh) (x y z : Int32) : Int32 := aGS T x y fun g s => match ndr 1 250 z with
  | none => -1
  | some n => m_why d S (2 * g + s) (Int32.ofNat n)
def m_act (d : Nat) (T : St) (S : Sh) (x y z : Int32) : Sh := match nd (t_g T) x, nd 2 y, ndr 1 250 z with
  | some g, some s, some n => m_try d S (2 * g + s) (Int32.ofNat n)
  | _, _, _ => S
theorem m_act_f {d : Nat} {T : St} {S : Sh} {x y z : Int32} (h : ((nd (t_g T) x).isSome && (nd 2 y).isSome) = false) : m_act d T S x y z = S := by
  unfold m_act
  cases e1 : nd (t_g T) x with
  | none => rfl
  | some g => cases e2 : nd 2 y with
    | none => rfl
    | some s =>
      rw [e1, e2] at h
      cases h
theorem m_act_n {d : Nat} {T : St} {S : Sh} {x y z : Int32} {g s : Nat} (h1 : nd (t_g T) x = some g) (h2 : nd 2 y = some s) (h3 : ndr 1 250 z = none) : m_act d T S x y z = S := by
  unfold m_act
  rw [h1, h2, h3]
theorem m_act_y {d : Nat} {T : St} {S : Sh} {x y z : Int32} {g s n : Nat} (h1 : nd (t_g T) x = some g) (h2 : nd 2 y = some s) (h3 : ndr 1 250 z = some n) : m_act d T S x y z = m_try d S (2 * g + s) (Int32.ofNat n) := by
  unfold m_act
  rw [h1, h2, h3]
def a_die (T : St) (S : Sh) (x : Int32) : Int32 := match nd (t_m T) x with
  | none => -1
  | some k => m_why 3 S k 0
def m_die (T : St) (S : Sh) (x : Int32) : Sh := match nd (t_m T) x with
  | none => S
  | some k => m_try 3 S k 0
def a_days (T : St) (S : Sh) (x : Int32) : Int32 := match ndr 1 60 x with
  | none => -1
  | some k => Int32.ofNat (h_d (m_days T S k)) - Int32.ofNat (h_d S)
def m_dys (T : St) (S : Sh) (x : Int32) : Sh := match ndr 1 60 x with
  | none => S
  | some k => m_days T S k
def a_drawn (T : St) (S : Sh) (x z : Int32) : Int32 := match ndr 1 60 x with
  | none => -1
  | some k => if t_g T = 0 then -1 else Int32.ofNat (h_d (m_drawn T (S, z) k).1) - Int32.ofNat (h_d S)
def m_dwn (T : St) (S : Sh) (x z : Int32) : Sh := match ndr 1 60 x with
  | none => S
  | some k => if t_g T = 0 then S else (m_drawn T (S, z) k).1
/-- what is kept then -/
def HK (b : Bool) (F : FW) (m n : Nat) (H : Nat → Sh) (S : Sh) : Prop := if b then HST F m (m_kn n) (m_kH n H S) else HST F m n H
theorem HK.t {b : Bool} {F : FW} {m n : Nat} {H : Nat → Sh} {S : Sh} (h : HST F m (m_kn n) (m_kH n H S)) (e : b = true) : HK b F m n H S := by
  rw [e]
  exact h
theorem HK.f {b : Bool} {F : FW} {m n : Nat} {H : Nat → Sh} {S : Sh} (h : HST F m n H) (e : b = false) : HK b F m n H S := by
  rw [e]
  exact h
theorem HST.took {P : Nat → Prop} {F G : FW} {m n : Nat} {H : Nat → Sh} (h : HST F m n H) (x : FX P F G) (c : ∀ a, P a → a < 88) (e : G.1 10 1 = Int32.ofNat (n - 1)) : HST G m (n - 1) H := by
  obtain ⟨k, s, hW, h1, h2, h3⟩ := h
  refine ⟨k, s, ⟨hW.1, fun j hj => ?_, fun j a b => by rw [x.2.2.1]; exact hW.2.2.1 j a b, hW.2.2.2⟩, by omega, e, fun j hj => ?_⟩
  · obtain ⟨b1, b2, b3, b4⟩ := hW.2.1 j hj
    exact ⟨by rw [x.2.2.1]; exact b1, x.O7 b2, b3, by rw [x.2.2.2]; exact b4⟩
  · have b := hW.2.1 j (by omega)
    exact (h3 j (by omega)).fx x (fun a c1 c2 q => by
      have := c a q
      omega)
end
-- 63.b61.act.lean.txt
section
set_option maxRecDepth 100000 in
set_option maxHeartbeats 4000000 in
theorem o_act {F : FW} {t : Nat} {T : St} {S : Sh} (hG : GW F) (ht : F.2.1 0 13 = .ref t) (hT : TR F t T) (hS : SHR F 12 (t_m T) S) (j0 : t = 45 ∨ t = 53) {n : Nat} {H : Nat → Sh} (hH : HST F (t_m T) n H) (h88 : 88 ≤ F.2.2.2.1) {d : Nat} (hd : d < 3) (x y z : Int32) : Pm Z_X10_act [.ref 0, .int (Int32.ofNat d), .int x, .int y, .int z] F (fun r F' => r = some (.int (a_act d T S x y z)) ∧ HK (decide (a_act d T S x y z = 0)) F' (t_m T) n H S ∧ SHR F' 12 (t_m T) (m_act d T S x y z) ∧ KF (fun q => 12 ≤ q ∧ q ≤ 19) F F') := by
  refine Pm.of fun N => ?_
  obtain ⟨Q, hQ⟩ : ∃ Q : Option Value → FW → Prop, Q = (fun r F' => r = some (.int (a_act d T S x y z)) ∧ HK (decide (a_act d T S x y z = 0)) F' (t_m T) n H S ∧ SHR F' 12 (t_m T) (m_act d T S x y z) ∧ KF (fun q => 12 ≤ q ∧ q ≤ 19) F F') := ⟨_, rfl⟩
  rw [← hQ]
  have b3 := hT.mb
  have b4 := hT.nb
  have b5 := hT.gb
  have b6 := m_from_lt S
  have b7 := hS.db
  refine (show Pv (ab_T (L_X10_act Z_X10_isSlot Z_X10_isWithin Z_X10_slotOf Z_X6_whyNot Z_X2_keep Z_X6_perform)) N 0 [some (.ref 0), some (.int (Int32.ofNat d)), some (.int x), some (.int y), some (.int z), none, none] [] F Q from ?_)
  refine Pv.aload rfl rfl ?_
  refine Pv.iload rfl rfl ?_
  refine Pv.iload rfl rfl ?_
  refine Pv.callVI (as := [.ref 0, .int x, .int y]) (rest := []) (z := b2i ((nd (t_g T) x).isSome && (nd 2 y).isSome)) rfl rfl rfl (o_isSlot hG ht hT hS j0 x y) ?_
  refine Pv.if0 rfl (fun c1 => ?_) (fun c1 => ?_)
  · skip
    replace c1 := of_decide_eq_true c1
    replace c1 := b2z.mp c1
    refine Pv.lit rfl ?_
    have e : a_act d T S x y z = -1 := by unfold a_act; rw [aGS_f c1]
    exact Pv.ret rfl (by rw [hQ]; exact ⟨by rw [e], HK.f hH (by rw [e]; rfl), by rw [m_act_f c1]; exact hS, KF.rf⟩)
  · skip
    replace c1 := of_decide_eq_false c1
    replace c1 := b2n.mp c1
    obtain ⟨g, s, hg, hs, hgl, hsl, rfl, rfl⟩ := gs_t c1
    refine Pv.iload rfl rfl ?_
    refine Pv.lit rfl ?_
    refine Pv.callI (as := [.int z, .int 250]) (rest := []) (z := b2i (decide (1 ≤ z) && decide (z ≤ 250))) rfl rfl rfl ((o_isWithin z 250)) ?_
    refine Pv.if0 rfl (fun c2 => ?_) (fun c2 => ?_)
    · skip
      replace c2 : decide (b2i (decide (1 ≤ z) && decide (z ≤ 250)) = 0) = false := by simpa using c2
      replace c2 := of_decide_eq_false c2
      replace c2 := b2n.mp c2
      obtain ⟨k, hn, hna, hnb, rfl⟩ := ndr_t ((ndr_in (a := 1) (b := 250) (by omega) (by omega)).symm.trans c2)
      refine Pv.iload rfl rfl ?_
      refine Pv.iload rfl rfl ?_
      refine Pv.callI (as := [.int (Int32.ofNat g), .int (Int32.ofNat s)]) (rest := []) (z := Int32.ofNat (2 * g + s)) rfl rfl rfl (f_slotOf (g := g) (s := s)) ?_
      refine Pv.istore (lo' := [some (.ref 0), some (.int (Int32.ofNat d)), some (.int (Int32.ofNat g)), some (.int (Int32.ofNat s)), some (.int (Int32.ofNat k)), some (.int (Int32.ofNat (2 * g + s))), none]) rfl rfl ?_
      refine Pv.aload rfl rfl ?_
      refine Pv.getR (v := .ref 12) rfl rfl (GW.at (a := 0) (k := 4) (b := 12) hG (by decide)) ?_
      refine Pv.iload rfl rfl ?_
      refine Pv.iload rfl rfl ?_
      refine Pv.iload rfl rfl ?_
      refine Pv.callVI (as := [.ref 12, .int (Int32.ofNat d), .int (Int32.ofNat (2 * g + s)), .int (Int32.ofNat k)]) (rest := []) (z := m_why d S (2 * g + s) (Int32.ofNat k)) rfl rfl rfl (f_why hS (by omega) (by omega) hd) ?_
      refine Pv.istore (lo' := [some (.ref 0), some (.int (Int32.ofNat d)), some (.int (Int32.ofNat g)), some (.int (Int32.ofNat s)), some (.int (Int32.ofNat k)), some (.int (Int32.ofNat (2 * g + s))), some (.int (m_why d S (2 * g + s) (Int32.ofNat k)))]) rfl rfl ?_
      refine Pv.iload rfl rfl ?_
      refine Pv.if0 rfl (fun c3 => ?_) (fun c3 => ?_)
      · skip
        replace c3 : decide (m_why d S (2 * g + s) (Int32.ofNat k) = 0) = false := by simpa using c3
        replace c3 := of_decide_eq_false c3
        refine Pv.iload rfl rfl ?_
        have e : a_act d T S (Int32.ofNat g) (Int32.ofNat s) (Int32.ofNat k) = m_why d S (2 * g + s) (Int32.ofNat k) := by unfold a_act; rw [aGS_t hg hs, hn]
        exact Pv.ret rfl (by rw [hQ]; exact ⟨by rw [e], HK.f hH (by rw [e]; exact decide_eq_false c3), by rw [m_act_y hg hs hn]; unfold m_try; rw [if_neg c3]; exact hS, KF.rf⟩)
      · skip
        replace c3 : decide (m_why d S (2 * g + s) (Int32.ofNat k) = 0) = true := by simpa using c3
        replace c3 := of_decide_eq_true c3
        refine Pv.aload rfl rfl ?_
        refine Pv.getR (v := .ref 10) rfl rfl (GW.at (a := 0) (k := 3) (b := 10) hG (by decide)) ?_
        refine Pv.aload rfl rfl ?_
        refine Pv.getR (v := .ref 12) rfl rfl (GW.at (a := 0) (k := 4) (b := 12) hG (by decide)) ?_
        refine Pv.callV (as := [.ref 10, .ref 12]) (rest := []) rfl rfl rfl (f_keep hG hH hS b3 h88) ?_
        rintro _ G ⟨rfl, hH2, hK⟩
        have hG2 := hK.gw hH hG h88
        have hS2 := hK.sh hH hS (by omega) (by omega) h88
        have hT2 := hK.st hH hT (by omega) (by omega) h88
        have ht2 : G.2.1 0 13 = .ref t := ((hK.2.2.1 0 (by omega) (by omega) (by omega) (hH.ns (by omega))).2.1 13).trans ht
        refine (show Pv _ _ 59 [some (.ref 0), some (.int (Int32.ofNat d)), some (.int (Int32.ofNat g)), some (.int (Int32.ofNat s)), some (.int (Int32.ofNat k)), some (.int (Int32.ofNat (2 * g + s))), some (.int (m_why d S (2 * g + s) (Int32.ofNat k)))] [] G Q from ?_)
        refine Pv.aload rfl rfl ?_
        refine Pv.getR (v := .ref 12) rfl rfl (GW.at (a := 0) (k := 4) (b := 12) hG2 (by decide)) ?_
        refine Pv.iload rfl rfl ?_
        refine Pv.iload rfl rfl ?_
        refine Pv.iload rfl rfl ?_
        refine Pv.callV (as := [.ref 12, .int (Int32.ofNat d), .int (Int32.ofNat (2 * g + s)), .int (Int32.ofNat k)]) (rest := []) rfl rfl rfl (f_perf hS2 (by omega) (by omega) hd) ?_
        rintro _ G4 ⟨rfl, x5, sr7⟩
        have hx6 := FX.tr (P := fun q => 12 ≤ q ∧ q ≤ 19) FX.rf (x5.wd (fun q (c : 12 ≤ q ∧ q ≤ 12 + 7) => (show 12 ≤ q ∧ q ≤ 19 by omega)))
        have hx8 := hT2.fx (P := fun q => 12 ≤ q ∧ q ≤ 12 + 7) x5 (fun q h1 h2 (c : 12 ≤ q ∧ q ≤ 12 + 7) => by omega)
        have hx9 := hG2.fx (P := fun q => 12 ≤ q ∧ q ≤ 12 + 7) x5
        have hr10 : G4.2.1 0 13 = .ref t := by rw [x5.2.2.1]; exact ht2
        refine (show Pv _ _ 71 [some (.ref 0), some (.int (Int32.ofNat d)), some (.int (Int32.ofNat g)), some (.int (Int32.ofNat s)), some (.int (Int32.ofNat k)), some (.int (Int32.ofNat (2 * g + s))), some (.int (m_why d S (2 * g + s) (Int32.ofNat k)))] [] G4 Q from ?_)
        refine Pv.iload rfl rfl ?_
        have e : a_act d T S (Int32.ofNat g) (Int32.ofNat s) (Int32.ofNat k) = m_why d S (2 * g + s) (Int32.ofNat k) := by unfold a_act; rw [aGS_t hg hs, hn]
        exact Pv.ret rfl (by rw [hQ]; exact ⟨by rw [e], HK.t (hH2.fx (P := fun q => 12 ≤ q ∧ q ≤ 19) hx6 (fun q (c : 12 ≤ q ∧ q ≤ 19) => by omega)) (by rw [e]; exact decide_eq_true c3), by rw [m_act_y hg hs hn]; unfold m_try; rw [if_pos c3]; exact sr7, hK.wide.fx (R := fun q => 12 ≤ q ∧ q ≤ 19) hx6 (fun q _ c => c)⟩)
    · skip
      replace c2 : decide (b2i (decide (1 ≤ z) && decide (z ≤ 250)) = 0) = true := by simpa using c2
      replace c2 := of_decide_eq_true c2
      replace c2 := b2z.mp c2
      refine Pv.lit rfl ?_
      have e : a_act d T S (Int32.ofNat g) (Int32.ofNat s) z = -1 := by unfold a_act; rw [aGS_t hg hs, ndr_f ((ndr_in (a := 1) (b := 250) (by omega) (by omega)).symm.trans c2)]
      exact Pv.ret rfl (by rw [hQ]; exact ⟨by rw [e], HK.f hH (by rw [e]; rfl), by rw [m_act_n hg hs (ndr_f ((ndr_in (a := 1) (b := 250) (by omega) (by omega)).symm.trans c2))]; exact hS, KF.rf⟩)
end
-- 63.b62.done.lean.txt
section
set_option maxRecDepth 100000 in
set_option maxHeartbeats 4000000 in
theorem o_die {F : FW} {t : Nat} {T : St} {S : Sh} (hG : GW F) (ht : F.2.1 0 13 = .ref t) (hT : TR F t T) (hS : SHR F 12 (t_m T) S) (j0 : t = 45 ∨ t = 53) {n : Nat} {H : Nat → Sh} (hH : HST F (t_m T) n H) (h88 : 88 ≤ F.2.2.2.1) (x : Int32) : Pm Z_X10_die [.ref 0, .int x] F (fun r F' => r = some (.int (a_die T S x)) ∧ HK (decide (a_die T S x = 0)) F' (t_m T) n H S ∧ SHR F' 12 (t_m T) (m_die T S x) ∧ KF (fun q => 12 ≤ q ∧ q ≤ 19) F F') := by
  refine Pm.of fun N => ?_
  obtain ⟨Q, hQ⟩ : ∃ Q : Option Value → FW → Prop, Q = (fun r F' => r = some (.int (a_die T S x)) ∧ HK (decide (a_die T S x = 0)) F' (t_m T) n H S ∧ SHR F' 12 (t_m T) (m_die T S x) ∧ KF (fun q => 12 ≤ q ∧ q ≤ 19) F F') := ⟨_, rfl⟩
  rw [← hQ]
  have b3 := hT.mb
  have b4 := hT.nb
  have b5 := hT.gb
  have b6 := m_from_lt S
  have b7 := hS.db
  refine (show Pv (ab_T (L_X10_die Z_X10_isMan Z_X6_whyNot Z_X2_keep Z_X6_perform)) N 0 [some (.ref 0), some (.int x), none] [] F Q from ?_)
  refine Pv.aload rfl rfl ?_
  refine Pv.iload rfl rfl ?_
  refine Pv.callVI (as := [.ref 0, .int x]) (rest := []) (z := b2i (nd (t_m T) x).isSome) rfl rfl rfl (o_isMan hG ht hT hS j0 x) ?_
  refine Pv.if0 rfl (fun c1 => ?_) (fun c1 => ?_)
  · skip
    replace c1 : decide (b2i (nd (t_m T) x).isSome = 0) = false := by simpa using c1
    replace c1 := of_decide_eq_false c1
    replace c1 := b2n.mp c1
    obtain ⟨k, hn, hnl, rfl⟩ := nd_t c1
    refine Pv.aload rfl rfl ?_
    refine Pv.getR (v := .ref 12) rfl rfl (GW.at (a := 0) (k := 4) (b := 12) hG (by decide)) ?_
    refine Pv.lit rfl ?_
    refine Pv.iload rfl rfl ?_
    refine Pv.lit rfl ?_
    refine Pv.callVI (as := [.ref 12, .int 3, .int (Int32.ofNat k), .int 0]) (rest := []) (z := m_why 3 S k 0) rfl rfl rfl (f_whyNot3 hS hnl b3) ?_
    refine Pv.istore (lo' := [some (.ref 0), some (.int (Int32.ofNat k)), some (.int (m_why 3 S k 0))]) rfl rfl ?_
    refine Pv.iload rfl rfl ?_
    refine Pv.if0 rfl (fun c2 => ?_) (fun c2 => ?_)
    · skip
      replace c2 : decide (m_why 3 S k 0 = 0) = false := by simpa using c2
      replace c2 := of_decide_eq_false c2
      refine Pv.iload rfl rfl ?_
      have e : a_die T S (Int32.ofNat k) = m_why 3 S k 0 := by unfold a_die; rw [hn]
      exact Pv.ret rfl (by rw [hQ]; exact ⟨by rw [e], HK.f hH (by rw [e]; exact decide_eq_false c2), by unfold m_die; rw [hn]; dsimp only; unfold m_try; rw [if_neg c2]; exact hS, KF.rf⟩)
    · skip
      replace c2 : decide (m_why 3 S k 0 = 0) = true := by simpa using c2
      replace c2 := of_decide_eq_true c2
      refine Pv.aload rfl rfl ?_
      refine Pv.getR (v := .ref 10) rfl rfl (GW.at (a := 0) (k := 3) (b := 10) hG (by decide)) ?_
      refine Pv.aload rfl rfl ?_
      refine Pv.getR (v := .ref 12) rfl rfl (GW.at (a := 0) (k := 4) (b := 12) hG (by decide)) ?_
      refine Pv.callV (as := [.ref 10, .ref 12]) (rest := []) rfl rfl rfl (f_keep hG hH hS b3 h88) ?_
      rintro _ G ⟨rfl, hH2, hK⟩
      have hG2 := hK.gw hH hG h88
      have hS2 := hK.sh hH hS (by omega) (by omega) h88
      have hT2 := hK.st hH hT (by omega) (by omega) h88
      have ht2 : G.2.1 0 13 = .ref t := ((hK.2.2.1 0 (by omega) (by omega) (by omega) (hH.ns (by omega))).2.1 13).trans ht
      refine (show Pv _ _ 36 [some (.ref 0), some (.int (Int32.ofNat k)), some (.int (m_why 3 S k 0))] [] G Q from ?_)
      refine Pv.aload rfl rfl ?_
      refine Pv.getR (v := .ref 12) rfl rfl (GW.at (a := 0) (k := 4) (b := 12) hG2 (by decide)) ?_
      refine Pv.lit rfl ?_
      refine Pv.iload rfl rfl ?_
      refine Pv.lit rfl ?_
      refine Pv.callV (as := [.ref 12, .int 3, .int (Int32.ofNat k), .int 0]) (rest := []) rfl rfl rfl (f_perform3 hS2 hnl b3) ?_
      rintro _ G3 ⟨rfl, x4, sr6⟩
      have hx5 := FX.tr (P := fun q => 12 ≤ q ∧ q ≤ 19) FX.rf (x4.wd (fun q (c : 12 ≤ q ∧ q ≤ 12 + 7) => (show 12 ≤ q ∧ q ≤ 19 by omega)))
      have hx7 := hT2.fx (P := fun q => 12 ≤ q ∧ q ≤ 12 + 7) x4 (fun q h1 h2 (c : 12 ≤ q ∧ q ≤ 12 + 7) => by omega)
      have hx8 := hG2.fx (P := fun q => 12 ≤ q ∧ q ≤ 12 + 7) x4
      have hr9 : G3.2.1 0 13 = .ref t := by rw [x4.2.2.1]; exact ht2
      refine (show Pv _ _ 46 [some (.ref 0), some (.int (Int32.ofNat k)), some (.int (m_why 3 S k 0))] [] G3 Q from ?_)
      refine Pv.iload rfl rfl ?_
      have e : a_die T S (Int32.ofNat k) = m_why 3 S k 0 := by unfold a_die; rw [hn]
      exact Pv.ret rfl (by rw [hQ]; exact ⟨by rw [e], HK.t (hH2.fx (P := fun q => 12 ≤ q ∧ q ≤ 19) hx5 (fun q (c : 12 ≤ q ∧ q ≤ 19) => by omega)) (by rw [e]; exact decide_eq_true c2), by unfold m_die; rw [hn]; dsimp only; unfold m_try; rw [if_pos c2]; exact sr6, hK.wide.fx (R := fun q => 12 ≤ q ∧ q ≤ 19) hx5 (fun q _ c => c)⟩)
  · skip
    replace c1 : decide (b2i (nd (t_m T) x).isSome = 0) = true := by simpa using c1
    replace c1 := of_decide_eq_true c1
    replace c1 := b2z.mp c1
    refine Pv.lit rfl ?_
    have e : a_die T S x = -1 := by unfold a_die; rw [nd_f c1]
    exact Pv.ret rfl (by rw [hQ]; exact ⟨by rw [e], HK.f hH (by rw [e]; rfl), by unfold m_die; rw [nd_f c1]; exact hS, KF.rf⟩)
set_option maxRecDepth 100000 in
set_option maxHeartbeats 4000000 in
theorem o_days {F : FW} {t : Nat} {T : St} {S : Sh} (hG : GW F) (ht : F.2.1 0 13 = .ref t) (hT : TR F t T) (hS : SHR F 12 (t_m T) S) (j0 : t = 45 ∨ t = 53) {n : Nat} {H : Nat → Sh} (hH : HST F (t_m T) n H) (h88 : 88 ≤ F.2.2.2.1) (x : Int32) : Pm Z_X10_days [.ref 0, .int x] F (fun r F' => r = some (.int (a_days T S x)) ∧ HK ((ndr 1 60 x).isSome && decide (h_d S < 400)) F' (t_m T) n H S ∧ SHR F' 12 (t_m T) (m_dys T S x) ∧ KF (fun q => (12 ≤ q ∧ q ≤ 19) ∨ (7 ≤ q ∧ q ≤ 9)) F F') := by
  refine Pm.of fun N => ?_
  obtain ⟨Q, hQ⟩ : ∃ Q : Option Value → FW → Prop, Q = (fun r F' => r = some (.int (a_days T S x)) ∧ HK ((ndr 1 60 x).isSome && decide (h_d S < 400)) F' (t_m T) n H S ∧ SHR F' 12 (t_m T) (m_dys T S x) ∧ KF (fun q => (12 ≤ q ∧ q ≤ 19) ∨ (7 ≤ q ∧ q ≤ 9)) F F') := ⟨_, rfl⟩
  rw [← hQ]
  have b3 := hT.mb
  have b4 := hT.nb
  have b5 := hT.gb
  have b6 := m_from_lt S
  have b7 := hS.db
  refine (show Pv (ab_T (L_X10_days Z_X10_isWithin Z_X2_keep Z_X1_passDays)) N 0 [some (.ref 0), some (.int x)] [] F Q from ?_)
  refine Pv.iload rfl rfl ?_
  refine Pv.lit rfl ?_
  refine Pv.callI (as := [.int x, .int 60]) (rest := []) (z := b2i (decide (1 ≤ x) && decide (x ≤ 60))) rfl rfl rfl ((o_isWithin x 60)) ?_
  refine Pv.if0 rfl (fun c1 => ?_) (fun c1 => ?_)
  · skip
    replace c1 : decide (b2i (decide (1 ≤ x) && decide (x ≤ 60)) = 0) = false := by simpa using c1
    replace c1 := of_decide_eq_false c1
    replace c1 := b2n.mp c1
    obtain ⟨k, hn, hna, hnb, rfl⟩ := ndr_t ((ndr_in (a := 1) (b := 60) (by omega) (by omega)).symm.trans c1)
    refine Pv.aload rfl rfl ?_
    refine Pv.getR (v := .ref 12) rfl rfl (GW.at (a := 0) (k := 4) (b := 12) hG (by decide)) ?_
    refine Pv.getI (z := Int32.ofNat (h_d S)) rfl rfl (hS.d) ?_
    refine Pv.lit rfl ?_
    refine Pv.icmp rfl (fun c2 => ?_) (fun c2 => ?_)
    · skip
      replace c2 := (i_le (a := 400) (b := h_d S) (by omega) (by omega)).mp (of_decide_eq_true c2)
      refine Pv.aload rfl rfl ?_
      refine Pv.getR (v := .ref 7) rfl rfl (GW.at (a := 0) (k := 2) (b := 7) hG (by decide)) ?_
      refine Pv.aload rfl rfl ?_
      refine Pv.getR (v := .ref t) rfl rfl (ht) ?_
      refine Pv.aload rfl rfl ?_
      refine Pv.getR (v := .ref 12) rfl rfl (GW.at (a := 0) (k := 4) (b := 12) hG (by decide)) ?_
      refine Pv.iload rfl rfl ?_
      refine Pv.callV (as := [.ref 7, .ref t, .ref 12, .int (Int32.ofNat k)]) (rest := []) rfl rfl rfl (f_passDays (n := k) hT hS hG (by omega) (by omega) (by omega) (by omega)) ?_
      rintro _ G3 ⟨rfl, x4, sr6, pl7⟩
      have hx5 := FX.tr (P := fun q => (12 ≤ q ∧ q ≤ 19) ∨ (7 ≤ q ∧ q ≤ 9)) FX.rf (x4.wd (fun q (c : (12 ≤ q ∧ q ≤ 12 + 7) ∨ (7 ≤ q ∧ q ≤ 9)) => (show (12 ≤ q ∧ q ≤ 19) ∨ (7 ≤ q ∧ q ≤ 9) by omega)))
      have hx8 := hT.fx (P := fun q => (12 ≤ q ∧ q ≤ 12 + 7) ∨ (7 ≤ q ∧ q ≤ 9)) x4 (fun q h1 h2 (c : (12 ≤ q ∧ q ≤ 12 + 7) ∨ (7 ≤ q ∧ q ≤ 9)) => by omega)
      have hx9 := hG.fx (P := fun q => (12 ≤ q ∧ q ≤ 12 + 7) ∨ (7 ≤ q ∧ q ≤ 9)) x4
      have hr10 : G3.2.1 0 13 = .ref t := by rw [x4.2.2.1]; exact ht
      refine (show Pv _ _ 51 [some (.ref 0), some (.int (Int32.ofNat k))] [.int (Int32.ofNat (h_d (m_days T S k)) - Int32.ofNat (h_d S))] G3 Q from ?_)
      exact Pv.ret rfl (by rw [hQ]; exact ⟨by unfold a_days; rw [hn], HK.f (hH.fx (P := fun q => (12 ≤ q ∧ q ≤ 19) ∨ (7 ≤ q ∧ q ≤ 9)) hx5 (fun q (c : (12 ≤ q ∧ q ≤ 19) ∨ (7 ≤ q ∧ q ≤ 9)) => by omega)) (by rw [hn]; exact decide_eq_false (by omega)), by unfold m_dys; rw [hn]; exact sr6, KF.rf.fx (R := fun q => (12 ≤ q ∧ q ≤ 19) ∨ (7 ≤ q ∧ q ≤ 9)) hx5 (fun q _ c => c)⟩)
    · skip
      replace c2 := mt (i_le (a := 400) (b := h_d S) (by omega) (by omega)).mpr (of_decide_eq_false c2)
      refine Pv.aload rfl rfl ?_
      refine Pv.getR (v := .ref 10) rfl rfl (GW.at (a := 0) (k := 3) (b := 10) hG (by decide)) ?_
      refine Pv.aload rfl rfl ?_
      refine Pv.getR (v := .ref 12) rfl rfl (GW.at (a := 0) (k := 4) (b := 12) hG (by decide)) ?_
      refine Pv.callV (as := [.ref 10, .ref 12]) (rest := []) rfl rfl rfl (f_keep hG hH hS b3 h88) ?_
      rintro _ G ⟨rfl, hH2, hK⟩
      have hG2 := hK.gw hH hG h88
      have hS2 := hK.sh hH hS (by omega) (by omega) h88
      have hT2 := hK.st hH hT (by omega) (by omega) h88
      have ht2 : G.2.1 0 13 = .ref t := ((hK.2.2.1 0 (by omega) (by omega) (by omega) (hH.ns (by omega))).2.1 13).trans ht
      refine (show Pv _ _ 35 [some (.ref 0), some (.int (Int32.ofNat k))] [] G Q from ?_)
      refine Pv.aload rfl rfl ?_
      refine Pv.getR (v := .ref 7) rfl rfl (GW.at (a := 0) (k := 2) (b := 7) hG2 (by decide)) ?_
      refine Pv.aload rfl rfl ?_
      refine Pv.getR (v := .ref t) rfl rfl (ht2) ?_
      refine Pv.aload rfl rfl ?_
      refine Pv.getR (v := .ref 12) rfl rfl (GW.at (a := 0) (k := 4) (b := 12) hG2 (by decide)) ?_
      refine Pv.iload rfl rfl ?_
      refine Pv.callV (as := [.ref 7, .ref t, .ref 12, .int (Int32.ofNat k)]) (rest := []) rfl rfl rfl (f_passDays (n := k) hT2 hS2 hG2 (by omega) (by omega) (by omega) (by omega)) ?_
      rintro _ G11 ⟨rfl, x12, sr14, pl15⟩
      have hx13 := FX.tr (P := fun q => (12 ≤ q ∧ q ≤ 19) ∨ (7 ≤ q ∧ q ≤ 9)) FX.rf (x12.wd (fun q (c : (12 ≤ q ∧ q ≤ 12 + 7) ∨ (7 ≤ q ∧ q ≤ 9)) => (show (12 ≤ q ∧ q ≤ 19) ∨ (7 ≤ q ∧ q ≤ 9) by omega)))
      have hx16 := hT2.fx (P := fun q => (12 ≤ q ∧ q ≤ 12 + 7) ∨ (7 ≤ q ∧ q ≤ 9)) x12 (fun q h1 h2 (c : (12 ≤ q ∧ q ≤ 12 + 7) ∨ (7 ≤ q ∧ q ≤ 9)) => by omega)
      have hx17 := hG2.fx (P := fun q => (12 ≤ q ∧ q ≤ 12 + 7) ∨ (7 ≤ q ∧ q ≤ 9)) x12
      have hr18 : G11.2.1 0 13 = .ref t := by rw [x12.2.2.1]; exact ht2
      refine (show Pv _ _ 51 [some (.ref 0), some (.int (Int32.ofNat k))] [.int (Int32.ofNat (h_d (m_days T S k)) - Int32.ofNat (h_d S))] G11 Q from ?_)
      exact Pv.ret rfl (by rw [hQ]; exact ⟨by unfold a_days; rw [hn], HK.t (hH2.fx (P := fun q => (12 ≤ q ∧ q ≤ 19) ∨ (7 ≤ q ∧ q ≤ 9)) hx13 (fun q (c : (12 ≤ q ∧ q ≤ 19) ∨ (7 ≤ q ∧ q ≤ 9)) => by omega)) (by rw [hn]; exact decide_eq_true (by omega)), by unfold m_dys; rw [hn]; exact sr14, hK.wide.fx (R := fun q => (12 ≤ q ∧ q ≤ 19) ∨ (7 ≤ q ∧ q ≤ 9)) hx13 (fun q _ c => c)⟩)
  · skip
    replace c1 : decide (b2i (decide (1 ≤ x) && decide (x ≤ 60)) = 0) = true := by simpa using c1
    replace c1 := of_decide_eq_true c1
    replace c1 := b2z.mp c1
    refine Pv.lit rfl ?_
    exact Pv.ret rfl (by rw [hQ]; exact ⟨by unfold a_days; rw [ndr_f ((ndr_in (a := 1) (b := 60) (by omega) (by omega)).symm.trans c1)], HK.f hH (by rw [ndr_f ((ndr_in (a := 1) (b := 60) (by omega) (by omega)).symm.trans c1)]; rfl), by unfold m_dys; rw [ndr_f ((ndr_in (a := 1) (b := 60) (by omega) (by omega)).symm.trans c1)]; exact hS, KF.rf⟩)
set_option maxRecDepth 100000 in
set_option maxHeartbeats 4000000 in
theorem o_drawn {F : FW} {t : Nat} {T : St} {S : Sh} (hG : GW F) (ht : F.2.1 0 13 = .ref t) (hT : TR F t T) (hS : SHR F 12 (t_m T) S) (j0 : t = 45 ∨ t = 53) {n : Nat} {H : Nat → Sh} (hH : HST F (t_m T) n H) (h88 : 88 ≤ F.2.2.2.1) (x z : Int32) : Pm Z_X10_drawn [.ref 0, .int x, .int z] F (fun r F' => r = some (.int (a_drawn T S x z)) ∧ HK ((ndr 1 60 x).isSome && decide (0 < t_g T) && decide (h_d S < 400)) F' (t_m T) n H S ∧ SHR F' 12 (t_m T) (m_dwn T S x z) ∧ KF (fun q => (12 ≤ q ∧ q ≤ 19) ∨ (7 ≤ q ∧ q ≤ 9) ∨ q = 40) F F') := by
  refine Pm.of fun N => ?_
  obtain ⟨Q, hQ⟩ : ∃ Q : Option Value → FW → Prop, Q = (fun r F' => r = some (.int (a_drawn T S x z)) ∧ HK ((ndr 1 60 x).isSome && decide (0 < t_g T) && decide (h_d S < 400)) F' (t_m T) n H S ∧ SHR F' 12 (t_m T) (m_dwn T S x z) ∧ KF (fun q => (12 ≤ q ∧ q ≤ 19) ∨ (7 ≤ q ∧ q ≤ 9) ∨ q = 40) F F') := ⟨_, rfl⟩
  rw [← hQ]
  have b3 := hT.mb
  have b4 := hT.nb
  have b5 := hT.gb
  have b6 := m_from_lt S
  have b7 := hS.db
  refine (show Pv (ab_T (L_X10_drawn Z_X10_isWithin Z_X2_keep Z_X10_drawDays)) N 0 [some (.ref 0), some (.int x), some (.int z)] [] F Q from ?_)
  refine Pv.iload rfl rfl ?_
  refine Pv.lit rfl ?_
  refine Pv.callI (as := [.int x, .int 60]) (rest := []) (z := b2i (decide (1 ≤ x) && decide (x ≤ 60))) rfl rfl rfl ((o_isWithin x 60)) ?_
  refine Pv.if0 rfl (fun c1 => ?_) (fun c1 => ?_)
  · skip
    replace c1 := of_decide_eq_true c1
    replace c1 := b2z.mp c1
    refine Pv.lit rfl ?_
    exact Pv.ret rfl (by rw [hQ]; exact ⟨by unfold a_drawn; rw [ndr_f ((ndr_in (a := 1) (b := 60) (by omega) (by omega)).symm.trans c1)], HK.f hH (by rw [ndr_f ((ndr_in (a := 1) (b := 60) (by omega) (by omega)).symm.trans c1)]; rfl), by unfold m_dwn; rw [ndr_f ((ndr_in (a := 1) (b := 60) (by omega) (by omega)).symm.trans c1)]; exact hS, KF.rf⟩)
  · skip
    replace c1 := of_decide_eq_false c1
    replace c1 := b2n.mp c1
    obtain ⟨k, hn, hna, hnb, rfl⟩ := ndr_t ((ndr_in (a := 1) (b := 60) (by omega) (by omega)).symm.trans c1)
    refine Pv.aload rfl rfl ?_
    refine Pv.getR (v := .ref t) rfl rfl (ht) ?_
    refine Pv.getI (z := Int32.ofNat (t_g T)) rfl rfl (hT.g) ?_
    refine Pv.if0 rfl (fun c2 => ?_) (fun c2 => ?_)
    · skip
      replace c2 : decide (Int32.ofNat (t_g T) = 0) = false := by simpa using c2
      replace c2 := mt (i_eq (a := t_g T) (b := 0) (by omega) (by omega)).mpr (of_decide_eq_false c2)
      have hg : 0 < t_g T := by omega
      refine Pv.aload rfl rfl ?_
      refine Pv.getR (v := .ref 12) rfl rfl (GW.at (a := 0) (k := 4) (b := 12) hG (by decide)) ?_
      refine Pv.getI (z := Int32.ofNat (h_d S)) rfl rfl (hS.d) ?_
      refine Pv.lit rfl ?_
      refine Pv.icmp rfl (fun c3 => ?_) (fun c3 => ?_)
      · skip
        replace c3 := (i_le (a := 400) (b := h_d S) (by omega) (by omega)).mp (of_decide_eq_true c3)
        refine Pv.aload rfl rfl ?_
        refine Pv.aload rfl rfl ?_
        refine Pv.getR (v := .ref 12) rfl rfl (GW.at (a := 0) (k := 4) (b := 12) hG (by decide)) ?_
        refine Pv.iload rfl rfl ?_
        refine Pv.iload rfl rfl ?_
        refine Pv.callV (as := [.ref 0, .ref 12, .int (Int32.ofNat k), .int z]) (rest := []) rfl rfl rfl (f_drawDays (n := k) (x := z) hG ht hT hS hg (by omega) (by omega) (by omega) (by omega) (by omega) (by omega)) ?_
        rintro _ G4 ⟨rfl, x5, sr7, hs8⟩
        have hx6 := FX.tr (P := fun q => (12 ≤ q ∧ q ≤ 19) ∨ (7 ≤ q ∧ q ≤ 9) ∨ q = 40) FX.rf (x5.wd (fun q (c : (12 ≤ q ∧ q ≤ 12 + 7) ∨ (7 ≤ q ∧ q ≤ 9) ∨ q = 40) => (show (12 ≤ q ∧ q ≤ 19) ∨ (7 ≤ q ∧ q ≤ 9) ∨ q = 40 by omega)))
        have hx9 := hT.fx (P := fun q => (12 ≤ q ∧ q ≤ 12 + 7) ∨ (7 ≤ q ∧ q ≤ 9) ∨ q = 40) x5 (fun q h1 h2 (c : (12 ≤ q ∧ q ≤ 12 + 7) ∨ (7 ≤ q ∧ q ≤ 9) ∨ q = 40) => by omega)
        have hx10 := hG.fx (P := fun q => (12 ≤ q ∧ q ≤ 12 + 7) ∨ (7 ≤ q ∧ q ≤ 9) ∨ q = 40) x5
        have hr11 : G4.2.1 0 13 = .ref t := by rw [x5.2.2.1]; exact ht
        refine (show Pv _ _ 55 [some (.ref 0), some (.int (Int32.ofNat k)), some (.int z)] [.int (Int32.ofNat (h_d (m_drawn T (S, z) k).1) - Int32.ofNat (h_d S))] G4 Q from ?_)
        exact Pv.ret rfl (by rw [hQ]; exact ⟨by unfold a_drawn; rw [hn]; dsimp only; rw [if_neg (by omega)], HK.f (hH.fx (P := fun q => (12 ≤ q ∧ q ≤ 19) ∨ (7 ≤ q ∧ q ≤ 9) ∨ q = 40) hx6 (fun q (c : (12 ≤ q ∧ q ≤ 19) ∨ (7 ≤ q ∧ q ≤ 9) ∨ q = 40) => by omega)) (by rw [hn, decide_eq_true (show 0 < t_g T by omega)]; exact decide_eq_false (by omega)), by unfold m_dwn; rw [hn]; dsimp only; rw [if_neg (by omega)]; exact sr7, KF.rf.fx (R := fun q => (12 ≤ q ∧ q ≤ 19) ∨ (7 ≤ q ∧ q ≤ 9) ∨ q = 40) hx6 (fun q _ c => c)⟩)
      · skip
        replace c3 := mt (i_le (a := 400) (b := h_d S) (by omega) (by omega)).mpr (of_decide_eq_false c3)
        refine Pv.aload rfl rfl ?_
        refine Pv.getR (v := .ref 10) rfl rfl (GW.at (a := 0) (k := 3) (b := 10) hG (by decide)) ?_
        refine Pv.aload rfl rfl ?_
        refine Pv.getR (v := .ref 12) rfl rfl (GW.at (a := 0) (k := 4) (b := 12) hG (by decide)) ?_
        refine Pv.callV (as := [.ref 10, .ref 12]) (rest := []) rfl rfl rfl (f_keep hG hH hS b3 h88) ?_
        rintro _ G ⟨rfl, hH2, hK⟩
        have hG2 := hK.gw hH hG h88
        have hS2 := hK.sh hH hS (by omega) (by omega) h88
        have hT2 := hK.st hH hT (by omega) (by omega) h88
        have ht2 : G.2.1 0 13 = .ref t := ((hK.2.2.1 0 (by omega) (by omega) (by omega) (hH.ns (by omega))).2.1 13).trans ht
        refine (show Pv _ _ 45 [some (.ref 0), some (.int (Int32.ofNat k)), some (.int z)] [] G Q from ?_)
        refine Pv.aload rfl rfl ?_
        refine Pv.aload rfl rfl ?_
        refine Pv.getR (v := .ref 12) rfl rfl (GW.at (a := 0) (k := 4) (b := 12) hG2 (by decide)) ?_
        refine Pv.iload rfl rfl ?_
        refine Pv.iload rfl rfl ?_
        refine Pv.callV (as := [.ref 0, .ref 12, .int (Int32.ofNat k), .int z]) (rest := []) rfl rfl rfl (f_drawDays (n := k) (x := z) hG2 ht2 hT2 hS2 hg (by omega) (by omega) (by omega) (by omega) (by omega) (by omega)) ?_
        rintro _ G12 ⟨rfl, x13, sr15, hs16⟩
        have hx14 := FX.tr (P := fun q => (12 ≤ q ∧ q ≤ 19) ∨ (7 ≤ q ∧ q ≤ 9) ∨ q = 40) FX.rf (x13.wd (fun q (c : (12 ≤ q ∧ q ≤ 12 + 7) ∨ (7 ≤ q ∧ q ≤ 9) ∨ q = 40) => (show (12 ≤ q ∧ q ≤ 19) ∨ (7 ≤ q ∧ q ≤ 9) ∨ q = 40 by omega)))
        have hx17 := hT2.fx (P := fun q => (12 ≤ q ∧ q ≤ 12 + 7) ∨ (7 ≤ q ∧ q ≤ 9) ∨ q = 40) x13 (fun q h1 h2 (c : (12 ≤ q ∧ q ≤ 12 + 7) ∨ (7 ≤ q ∧ q ≤ 9) ∨ q = 40) => by omega)
        have hx18 := hG2.fx (P := fun q => (12 ≤ q ∧ q ≤ 12 + 7) ∨ (7 ≤ q ∧ q ≤ 9) ∨ q = 40) x13
        have hr19 : G12.2.1 0 13 = .ref t := by rw [x13.2.2.1]; exact ht2
        refine (show Pv _ _ 55 [some (.ref 0), some (.int (Int32.ofNat k)), some (.int z)] [.int (Int32.ofNat (h_d (m_drawn T (S, z) k).1) - Int32.ofNat (h_d S))] G12 Q from ?_)
        exact Pv.ret rfl (by rw [hQ]; exact ⟨by unfold a_drawn; rw [hn]; dsimp only; rw [if_neg (by omega)], HK.t (hH2.fx (P := fun q => (12 ≤ q ∧ q ≤ 19) ∨ (7 ≤ q ∧ q ≤ 9) ∨ q = 40) hx14 (fun q (c : (12 ≤ q ∧ q ≤ 19) ∨ (7 ≤ q ∧ q ≤ 9) ∨ q = 40) => by omega)) (by rw [hn, decide_eq_true (show 0 < t_g T by omega)]; exact decide_eq_true (by omega)), by unfold m_dwn; rw [hn]; dsimp only; rw [if_neg (by omega)]; exact sr15, hK.wide.fx (R := fun q => (12 ≤ q ∧ q ≤ 19) ∨ (7 ≤ q ∧ q ≤ 9) ∨ q = 40) hx14 (fun q _ c => c)⟩)
    · skip
      replace c2 : decide (Int32.ofNat (t_g T) = 0) = true := by simpa using c2
      replace c2 := (i_eq (a := t_g T) (b := 0) (by omega) (by omega)).mp (of_decide_eq_true c2)
      refine Pv.lit rfl ?_
      exact Pv.ret rfl (by rw [hQ]; exact ⟨by unfold a_drawn; rw [hn]; dsimp only; rw [if_pos (by omega)], HK.f hH (by rw [hn, decide_eq_false (show ¬ 0 < t_g T by omega)]; rfl), by unfold m_dwn; rw [hn]; dsimp only; rw [if_pos (by omega)]; exact hS, KF.rf⟩)
set_option maxRecDepth 100000 in
set_option maxHeartbeats 4000000 in
theorem f_takeBack0 {F : FW} {n mm c : Nat} {s : Nat → Nat} {S : Sh} {H : Nat → Sh} (hG : GW F) (hW : HW F c s) (hc : n ≤ c) (hn : F.1 10 1 = Int32.ofNat n) (hj : ∀ j, j < n → SHR F (s j) mm (H j)) (hS : SHR F 12 mm S) (hmm : mm ≤ 8) : Pm Z_X2_takeBack [.ref 10, .ref 12] F (fun r F' => r = some (.int (if n = 0 then -1 else Int32.ofNat (n - 1))) ∧ HST F' mm (n - 1) H ∧ SHR F' 12 mm (if n = 0 then S else H (n - 1)) ∧ FX (fun q => (12 ≤ q ∧ q ≤ 19) ∨ q = 10) F F') := by
  refine Pm.of fun N => ?_
  obtain ⟨Q, hQ⟩ : ∃ Q : Option Value → FW → Prop, Q = (fun r F' => r = some (.int (if n = 0 then -1 else Int32.ofNat (n - 1))) ∧ HST F' mm (n - 1) H ∧ SHR F' 12 mm (if n = 0 then S else H (n - 1)) ∧ FX (fun q => (12 ≤ q ∧ q ≤ 19) ∨ q = 10) F F') := ⟨_, rfl⟩
  rw [← hQ]
  have b9 := hW.1
  refine (show Pv (ab_T (L_X2_takeBack Z_X6_copyFrom)) N 0 [some (.ref 10), some (.ref 12), none] [] F Q from ?_)
  refine Pv.aload rfl rfl ?_
  refine Pv.getI (z := Int32.ofNat n) rfl rfl (hn) ?_
  refine Pv.if0 rfl (fun c1 => ?_) (fun c1 => ?_)
  · skip
    replace c1 := (i_le (a := n) (b := 0) (by omega) (by omega)).mp (of_decide_eq_true c1)
    refine Pv.lit rfl ?_
    exact Pv.ret rfl (by rw [hQ]; exact ⟨by rw [if_pos (by omega)], by rw [show n - 1 = n by omega]; exact ⟨c, s, hW, hc, hn, hj⟩, by rw [if_pos (by omega)]; exact hS, FX.rf⟩)
  · skip
    replace c1 := mt (i_le (a := n) (b := 0) (by omega) (by omega)).mpr (of_decide_eq_false c1)
    refine Pv.aload rfl rfl ?_
    refine Pv.getI (z := Int32.ofNat n) rfl rfl (hn) ?_
    refine Pv.lit rfl ?_
    refine Pv.icmp rfl (fun c2 => ?_) (fun c2 => ?_)
    · skip
      replace c2 := (i_le (a := n) (b := 8) (by omega) (by omega)).mp (of_decide_eq_true c2)
      refine Pv.aload rfl rfl ?_
      refine Pv.getR (v := .ref 11) rfl rfl (GW.at (a := 10) (k := 0) (b := 11) hG (by decide)) ?_
      refine Pv.aload rfl rfl ?_
      refine Pv.getI (z := Int32.ofNat n) rfl rfl (hn) ?_
      refine Pv.lit rfl ?_
      refine Pv.bin (z := Int32.ofNat (n - 1)) rfl (i_subN (a := n) (b := 1) (by omega)) ?_
      refine Pv.aald (v := .ref (s (n - 1))) rfl (by rw [i_toNat (by omega)]; exact (hW.2.1 (n - 1) (by omega)).1) ?_
      refine Pv.astore (lo' := [some (.ref 10), some (.ref 12), some (.ref (s (n - 1)))]) rfl rfl ?_
      refine Pv.aload rfl rfl ?_
      refine Pv.nonnullR rfl ?_
      refine Pv.aload rfl rfl ?_
      refine Pv.aload rfl rfl ?_
      refine Pv.callV (as := [.ref 12, .ref (s (n - 1))]) (rest := []) rfl rfl rfl (f_shCopy hS.o (hj (n - 1) (by omega)) hmm (by have q := (hW.2.1 (n - 1) (by omega)).2.2.1; omega)) ?_
      rintro _ G3 ⟨rfl, x4, sr6⟩
      have hx5 := FX.tr (P := fun q => (12 ≤ q ∧ q ≤ 19) ∨ q = 10) FX.rf (x4.wd (fun q (c : 12 ≤ q ∧ q ≤ 12 + 7) => (show (12 ≤ q ∧ q ≤ 19) ∨ q = 10 by omega)))
      have hx7 := hG.fx (P := fun q => 12 ≤ q ∧ q ≤ 12 + 7) x4
      refine (show Pv _ _ 41 [some (.ref 10), some (.ref 12), some (.ref (s (n - 1)))] [] G3 Q from ?_)
      refine Pv.aload rfl rfl ?_
      refine Pv.dup rfl ?_
      refine Pv.getI (z := Int32.ofNat n) rfl rfl ((x4.1 10 1 (by omega)).trans hn) ?_
      refine Pv.lit rfl ?_
      refine Pv.bin (z := Int32.ofNat (n - 1)) rfl (i_subN (a := n) (b := 1) (by omega)) ?_
      refine Pv.putI rfl rfl ?_
      refine Pv.aload rfl rfl ?_
      refine Pv.getI (z := Int32.ofNat (n - 1)) rfl rfl (fp_eq) ?_
      exact Pv.ret rfl (by rw [hQ]; exact ⟨by rw [if_neg (by omega)], HST.took (n := n) ⟨c, s, hW, hc, hn, hj⟩ (P := fun q => (12 ≤ q ∧ q ≤ 19) ∨ q = 10) ((hx5).fp (show (12 ≤ 10 ∧ 10 ≤ 19) ∨ 10 = 10 by omega)) (fun q (c : (12 ≤ q ∧ q ≤ 19) ∨ q = 10) => by omega) (fp_eq), by rw [if_neg (by omega)]; exact (sr6.fx (P := fun q => q = 10) (((FX.rf (P := fun q => q = 10))).fp rfl) (fun q h1 h2 (c : q = 10) => by omega)), (hx5).fp (show (12 ≤ 10 ∧ 10 ≤ 19) ∨ 10 = 10 by omega)⟩)
    · skip
      replace c2 := mt (i_le (a := n) (b := 8) (by omega) (by omega)).mpr (of_decide_eq_false c2)
      refine Pv.lit rfl ?_
      exact Pv.ret rfl (by rw [hQ]; exact ⟨by rw [if_pos (by omega)], by rw [show n - 1 = n by omega]; exact ⟨c, s, hW, hc, hn, hj⟩, by rw [if_pos (by omega)]; exact hS, FX.rf⟩)
set_option maxRecDepth 100000 in
set_option maxHeartbeats 4000000 in
theorem o_fault {F : FW} {t : Nat} {T : St} {S : Sh} (hG : GW F) (ht : F.2.1 0 13 = .ref t) (hT : TR F t T) (hS : SHR F 12 (t_m T) S) (j0 : t = 45 ∨ t = 53) : Pm Z_X10_fault [.ref 0] F (fun r F' => r = some (.int (F.1 0 18)) ∧ F' = F) := by
  refine Pm.of fun N => ?_
  obtain ⟨Q, hQ⟩ : ∃ Q : Option Value → FW → Prop, Q = (fun r F' => r = some (.int (F.1 0 18)) ∧ F' = F) := ⟨_, rfl⟩
  rw [← hQ]
  have b3 := hT.mb
  have b4 := hT.nb
  have b5 := hT.gb
  have b6 := m_from_lt S
  have b7 := hS.db
  refine (show Pv (ab_T L_X10_fault) N 0 [some (.ref 0)] [] F Q from ?_)
  refine Pv.aload rfl rfl ?_
  refine Pv.getI (z := F.1 0 18) rfl rfl (rfl) ?_
  exact Pv.ret rfl (by rw [hQ]; exact ⟨rfl, rfl⟩)
set_option maxRecDepth 100000 in
set_option maxHeartbeats 4000000 in
theorem o_hoard {F : FW} {t : Nat} {T : St} {S : Sh} (hG : GW F) (ht : F.2.1 0 13 = .ref t) (hT : TR F t T) (hS : SHR F 12 (t_m T) S) (j0 : t = 45 ∨ t = 53) {n : Nat} {H : Nat → Sh} (hH : HST F (t_m T) n H) (h88 : 88 ≤ F.2.2.2.1) (x y z : Int32) : Pm Z_X10_hoard [.ref 0, .int x, .int y, .int z] F (fun r F' => r = some (.int (a_act 0 T S x y z)) ∧ HK (decide (a_act 0 T S x y z = 0)) F' (t_m T) n H S ∧ SHR F' 12 (t_m T) (m_act 0 T S x y z) ∧ KF (fun q => 12 ≤ q ∧ q ≤ 19) F F') := by
  refine Pm.of fun N => ?_
  obtain ⟨Q, hQ⟩ : ∃ Q : Option Value → FW → Prop, Q = (fun r F' => r = some (.int (a_act 0 T S x y z)) ∧ HK (decide (a_act 0 T S x y z = 0)) F' (t_m T) n H S ∧ SHR F' 12 (t_m T) (m_act 0 T S x y z) ∧ KF (fun q => 12 ≤ q ∧ q ≤ 19) F F') := ⟨_, rfl⟩
  rw [← hQ]
  refine (show Pv (ab_T (L_X10_hoard Z_X10_act)) N 0 [some (.ref 0), some (.int x), some (.int y), some (.int z)] [] F Q from ?_)
  refine Pv.aload rfl rfl ?_
  refine Pv.lit rfl ?_
  refine Pv.iload rfl rfl ?_
  refine Pv.iload rfl rfl ?_
  refine Pv.iload rfl rfl ?_
  refine Pv.callV (as := [.ref 0, .int 0, .int x, .int y, .int z]) (rest := []) rfl rfl rfl (o_act (d := 0) hG ht hT hS j0 hH h88 (by decide) x y z) ?_
  rintro _ G ⟨rfl, h1, h2, h3⟩
  refine (show Pv _ _ 8 [some (.ref 0), some (.int x), some (.int y), some (.int z)] [.int (a_act 0 T S x y z)] G Q from ?_)
  exact Pv.ret rfl (by rw [hQ]; exact ⟨rfl, h1, h2, h3⟩)
set_option maxRecDepth 100000 in
set_option maxHeartbeats 4000000 in
theorem o_bare {F : FW} {t : Nat} {T : St} {S : Sh} (hG : GW F) (ht : F.2.1 0 13 = .ref t) (hT : TR F t T) (hS : SHR F 12 (t_m T) S) (j0 : t = 45 ∨ t = 53) {n : Nat} {H : Nat → Sh} (hH : HST F (t_m T) n H) (h88 : 88 ≤ F.2.2.2.1) (x y z : Int32) : Pm Z_X10_bare [.ref 0, .int x, .int y, .int z] F (fun r F' => r = some (.int (a_act 1 T S x y z)) ∧ HK (decide (a_act 1 T S x y z = 0)) F' (t_m T) n H S ∧ SHR F' 12 (t_m T) (m_act 1 T S x y z) ∧ KF (fun q => 12 ≤ q ∧ q ≤ 19) F F') := by
  refine Pm.of fun N => ?_
  obtain ⟨Q, hQ⟩ : ∃ Q : Option Value → FW → Prop, Q = (fun r F' => r = some (.int (a_act 1 T S x y z)) ∧ HK (decide (a_act 1 T S x y z = 0)) F' (t_m T) n H S ∧ SHR F' 12 (t_m T) (m_act 1 T S x y z) ∧ KF (fun q => 12 ≤ q ∧ q ≤ 19) F F') := ⟨_, rfl⟩
  rw [← hQ]
  refine (show Pv (ab_T (L_X10_bare Z_X10_act)) N 0 [some (.ref 0), some (.int x), some (.int y), some (.int z)] [] F Q from ?_)
  refine Pv.aload rfl rfl ?_
  refine Pv.lit rfl ?_
  refine Pv.iload rfl rfl ?_
  refine Pv.iload rfl rfl ?_
  refine Pv.iload rfl rfl ?_
  refine Pv.callV (as := [.ref 0, .int 1, .int x, .int y, .int z]) (rest := []) rfl rfl rfl (o_act (d := 1) hG ht hT hS j0 hH h88 (by decide) x y z) ?_
  rintro _ G ⟨rfl, h1, h2, h3⟩
  refine (show Pv _ _ 8 [some (.ref 0), some (.int x), some (.int y), some (.int z)] [.int (a_act 1 T S x y z)] G Q from ?_)
  exact Pv.ret rfl (by rw [hQ]; exact ⟨rfl, h1, h2, h3⟩)
set_option maxRecDepth 100000 in
set_option maxHeartbeats 4000000 in
theorem o_waste {F : FW} {t : Nat} {T : St} {S : Sh} (hG : GW F) (ht : F.2.1 0 13 = .ref t) (hT : TR F t T) (hS : SHR F 12 (t_m T) S) (j0 : t = 45 ∨ t = 53) {n : Nat} {H : Nat → Sh} (hH : HST F (t_m T) n H) (h88 : 88 ≤ F.2.2.2.1) (x y z : Int32) : Pm Z_X10_waste [.ref 0, .int x, .int y, .int z] F (fun r F' => r = some (.int (a_act 2 T S x y z)) ∧ HK (decide (a_act 2 T S x y z = 0)) F' (t_m T) n H S ∧ SHR F' 12 (t_m T) (m_act 2 T S x y z) ∧ KF (fun q => 12 ≤ q ∧ q ≤ 19) F F') := by
  refine Pm.of fun N => ?_
  obtain ⟨Q, hQ⟩ : ∃ Q : Option Value → FW → Prop, Q = (fun r F' => r = some (.int (a_act 2 T S x y z)) ∧ HK (decide (a_act 2 T S x y z = 0)) F' (t_m T) n H S ∧ SHR F' 12 (t_m T) (m_act 2 T S x y z) ∧ KF (fun q => 12 ≤ q ∧ q ≤ 19) F F') := ⟨_, rfl⟩
  rw [← hQ]
  refine (show Pv (ab_T (L_X10_waste Z_X10_act)) N 0 [some (.ref 0), some (.int x), some (.int y), some (.int z)] [] F Q from ?_)
  refine Pv.aload rfl rfl ?_
  refine Pv.lit rfl ?_
  refine Pv.iload rfl rfl ?_
  refine Pv.iload rfl rfl ?_
  refine Pv.iload rfl rfl ?_
  refine Pv.callV (as := [.ref 0, .int 2, .int x, .int y, .int z]) (rest := []) rfl rfl rfl (o_act (d := 2) hG ht hT hS j0 hH h88 (by decide) x y z) ?_
  rintro _ G ⟨rfl, h1, h2, h3⟩
  refine (show Pv _ _ 8 [some (.ref 0), some (.int x), some (.int y), some (.int z)] [.int (a_act 2 T S x y z)] G Q from ?_)
  exact Pv.ret rfl (by rw [hQ]; exact ⟨rfl, h1, h2, h3⟩)
end
-- 63.b63.back.lean.txt
section
/-! ===== what is taken back; prices that were found ===== -/
theorem f_takeBack {F : FW} {n mm : Nat} {S : Sh} {H : Nat → Sh} (hG : GW F) (hH : HST F mm n H) (hS : SHR F 12 mm S) (hmm : mm ≤ 8) : Pm Z_X2_takeBack [.ref 10, .ref 12] F (fun r F' => r = some (.int (if n = 0 then -1 else Int32.ofNat (n - 1))) ∧ HST F' mm (n - 1) H ∧ SHR F' 12 mm (if n = 0 then S else H (n - 1)) ∧ FX (fun q => (12 ≤ q ∧ q ≤ 19) ∨ q = 10) F F') := by
  obtain ⟨c, s, hW, hc, hn, hj⟩ := hH
  exact f_takeBack0 hG hW hc hn hj hS hmm
/-- of what was told; e: how many bytes are fed -/
def a_count (T : St) (e : Int32) (w : Int32) : Int32 := match nd 5 w with
  | none => -1
  | some k => match k with
    | 0 => Int32.ofNat (t_g T)
    | 1 => Int32.ofNat (t_m T)
    | 2 => t_l T
    | 3 => Int32.ofNat (t_n T)
    | _ => e
end
-- 63.b64.undo.lean.txt
section
set_option maxRecDepth 100000 in
set_option maxHeartbeats 4000000 in
theorem o_undo {F : FW} {t : Nat} {T : St} {S : Sh} (hG : GW F) (ht : F.2.1 0 13 = .ref t) (hT : TR F t T) (hS : SHR F 12 (t_m T) S) (j0 : t = 45 ∨ t = 53) {n : Nat} {H : Nat → Sh} (hH : HST F (t_m T) n H) (h88 : 88 ≤ F.2.2.2.1) : Pm Z_X10_undo [.ref 0] F (fun r F' => r = some (.int (if n = 0 then -1 else Int32.ofNat (n - 1))) ∧ HST F' (t_m T) (n - 1) H ∧ SHR F' 12 (t_m T) (if n = 0 then S else H (n - 1)) ∧ FX (fun q => (12 ≤ q ∧ q ≤ 19) ∨ q = 10) F F') := by
  refine Pm.of fun N => ?_
  obtain ⟨Q, hQ⟩ : ∃ Q : Option Value → FW → Prop, Q = (fun r F' => r = some (.int (if n = 0 then -1 else Int32.ofNat (n - 1))) ∧ HST F' (t_m T) (n - 1) H ∧ SHR F' 12 (t_m T) (if n = 0 then S else H (n - 1)) ∧ FX (fun q => (12 ≤ q ∧ q ≤ 19) ∨ q = 10) F F') := ⟨_, rfl⟩
  rw [← hQ]
  have b3 := hT.mb
  have b4 := hT.nb
  have b5 := hT.gb
  have b6 := m_from_lt S
  have b7 := hS.db
  refine (show Pv (ab_T (L_X10_undo Z_X2_takeBack)) N 0 [some (.ref 0)] [] F Q from ?_)
  refine Pv.aload rfl rfl ?_
  refine Pv.getR (v := .ref 10) rfl rfl (GW.at (a := 0) (k := 3) (b := 10) hG (by decide)) ?_
  refine Pv.aload rfl rfl ?_
  refine Pv.getR (v := .ref 12) rfl rfl (GW.at (a := 0) (k := 4) (b := 12) hG (by decide)) ?_
  refine Pv.callV (as := [.ref 10, .ref 12]) (rest := []) rfl rfl rfl (f_takeBack hG hH hS b3) ?_
  rintro _ G ⟨rfl, h1, h2, h3⟩
  refine (show Pv _ _ 11 [some (.ref 0)] [.int (if n = 0 then -1 else Int32.ofNat (n - 1))] G Q from ?_)
  exact Pv.ret rfl (by rw [hQ]; exact ⟨rfl, h1, h2, h3⟩)
set_option maxRecDepth 100000 in
set_option maxHeartbeats 4000000 in
theorem o_count {F : FW} {t : Nat} {T : St} {e : Int32} (hG : GW F) (ht : F.2.1 0 13 = .ref t) (hT : TR F t T) (he : F.1 1 1 = e) (w : Int32) : Pm Z_X10_count [.ref 0, .int w] F (fun r F' => r = some (.int (a_count T e w)) ∧ F' = F) := by
  refine Pm.of fun N => ?_
  obtain ⟨Q, hQ⟩ : ∃ Q : Option Value → FW → Prop, Q = (fun r F' => r = some (.int (a_count T e w)) ∧ F' = F) := ⟨_, rfl⟩
  rw [← hQ]
  refine (show Pv (ab_T L_X10_count) N 0 [some (.ref 0), some (.int w)] [] F Q from ?_)
  refine Pv.iload rfl rfl ?_
  rcases nd_5 w with rfl | rfl | rfl | rfl | rfl | hw
  · refine Pv.tab (t := 36) rfl rfl ?_
    refine Pv.aload rfl rfl ?_
    refine Pv.getR (v := .ref t) rfl rfl (ht) ?_
    refine Pv.getI (z := Int32.ofNat (t_g T)) rfl rfl (hT.g) ?_
    exact Pv.ret rfl (by rw [hQ]; exact ⟨rfl, rfl⟩)
  · refine Pv.tab (t := 44) rfl rfl ?_
    refine Pv.aload rfl rfl ?_
    refine Pv.getR (v := .ref t) rfl rfl (ht) ?_
    refine Pv.getI (z := Int32.ofNat (t_m T)) rfl rfl (hT.m) ?_
    exact Pv.ret rfl (by rw [hQ]; exact ⟨rfl, rfl⟩)
  · refine Pv.tab (t := 52) rfl rfl ?_
    refine Pv.aload rfl rfl ?_
    refine Pv.getR (v := .ref t) rfl rfl (ht) ?_
    refine Pv.getI (z := t_l T) rfl rfl (hT.l) ?_
    exact Pv.ret rfl (by rw [hQ]; exact ⟨rfl, rfl⟩)
  · refine Pv.tab (t := 60) rfl rfl ?_
    refine Pv.aload rfl rfl ?_
    refine Pv.getR (v := .ref t) rfl rfl (ht) ?_
    refine Pv.getI (z := Int32.ofNat (t_n T)) rfl rfl (hT.n) ?_
    exact Pv.ret rfl (by rw [hQ]; exact ⟨rfl, rfl⟩)
  · refine Pv.tab (t := 68) rfl rfl ?_
    refine Pv.aload rfl rfl ?_
    refine Pv.getR (v := .ref 1) rfl rfl (GW.at (a := 0) (k := 0) (b := 1) hG (by decide)) ?_
    refine Pv.getI (z := e) rfl rfl (he) ?_
    exact Pv.ret rfl (by rw [hQ]; exact ⟨rfl, rfl⟩)
  · refine Pv.tab (t := 76) rfl (nd_tab hw (by decide)) ?_
    refine Pv.lit rfl ?_
    exact Pv.ret rfl (by rw [hQ]; exact ⟨by unfold a_count; rw [hw], rfl⟩)
end
-- 63.b66.pure2.lean.txt
section
/-! ===== what stays so: bounds of all that is so ===== -/
theorem cT_ge {T : St} {S : Sh} {j : Nat} : ∀ {k : Nat}, k ≤ j → m_cT T S k j = h_t S j
  | 0, _ => rfl
  | k + 1, h => by
    show (if m_bit (m_board T S) k = true then up1 (m_cT T S k) k (m_cT T S k k + 1) else m_cT T S k) j = _
    by_cases c : m_bit (m_board T S) k = true
    · rw [if_pos c, up1_ne (by omega)]
      exact cT_ge (by omega)
    · rw [if_neg c]
      exact cT_ge (by omega)
theorem cT_lt {T : St} {S : Sh} {j : Nat} : ∀ {k : Nat}, j < k → m_cT T S k j = if m_bit (m_board T S) j = true then h_t S j + 1 else h_t S j
  | k + 1, h => by
    show (if m_bit (m_board T S) k = true then up1 (m_cT T S k) k (m_cT T S k k + 1) else m_cT T S k) j = _
    by_cases e : j = k
    · subst e
      by_cases c : m_bit (m_board T S) j = true
      · rw [if_pos c, if_pos c, up1_eq, cT_ge (Nat.le_refl j)]
      · rw [if_neg c, if_neg c, cT_ge (Nat.le_refl j)]
    · by_cases c : m_bit (m_board T S) k = true
      · rw [if_pos c, up1_ne e]
        exact cT_lt (by omega)
      · rw [if_neg c]
        exact cT_lt (by omega)
theorem t_day {T : St} {S : Sh} {j : Nat} (hj : j < t_m T) : h_t (m_day T S) j = if m_bit (m_board T S) j = true then h_t S j + 1 else h_t S j := cT_lt hj
theorem cC_1 {T : St} {S : Sh} {k : Nat} : ∀ {g : Nat}, k < g → m_cC T S g (2 * k + (1 - m_from S)) = h_c S (2 * k + (1 - m_from S)) + m_fr T S k
  | g + 1, h => by
    have b6 := m_from_lt S
    show up1 (m_cC T S g) _ _ _ = _
    by_cases c : k = g
    · subst c
      rw [up1_eq, cC_ge (by omega)]
    · rw [up1_ne (by omega)]
      exact cC_1 (by omega)
theorem cC_2 {T : St} {S : Sh} {k : Nat} : ∀ {g : Nat}, m_cC T S g (2 * k + m_from S) = h_c S (2 * k + m_from S)
  | 0 => rfl
  | g + 1 => by
    have b6 := m_from_lt S
    show up1 (m_cC T S g) _ _ _ = _
    rw [up1_ne (by omega)]
    exact cC_2
theorem c_day {T : St} {S : Sh} {g s : Nat} (hg : g < t_g T) (hs : s < 2) : h_c (m_day T S) (2 * g + s) = if m_from S = s then h_c S (2 * g + s) else h_c S (2 * g + s) + m_fr T S g := by
  have b6 := m_from_lt S
  show m_cC T S (t_g T) (2 * g + s) = _
  by_cases c : m_from S = s
  · rw [if_pos c, ← c, cC_2]
  · rw [if_neg c, show s = 1 - m_from S by omega, cC_1 hg]
/-- how often men crossed; how much came -/
def TRB (T : St) (S : Sh) : Prop := ∀ m, m < t_m T → 0 ≤ (h_t S m).toInt ∧ (h_t S m).toInt ≤ (h_d S : Int)
def CBD (S : Sh) : Prop := ∀ k, k < 12 → 0 ≤ (h_c S k).toInt ∧ (h_c S k).toInt ≤ 40 * (h_d S : Int)
def INV (T : St) (S : Sh) : Prop := SB S ∧ HB S ∧ AB T S ∧ TRB T S ∧ CBD S ∧ h_d S ≤ 400
theorem INV.sb {T : St} {S : Sh} (h : INV T S) : SB S := h.1
theorem INV.hb {T : St} {S : Sh} (h : INV T S) : HB S := h.2.1
theorem INV.ab {T : St} {S : Sh} (h : INV T S) : AB T S := h.2.2.1
theorem INV.tr {T : St} {S : Sh} (h : INV T S) : TRB T S := h.2.2.2.1
theorem INV.cb {T : St} {S : Sh} (h : INV T S) : CBD S := h.2.2.2.2.1
theorem INV.db {T : St} {S : Sh} (h : INV T S) : h_d S ≤ 400 := h.2.2.2.2.2
theorem i_1 : (1 : Int32).toInt = 1 := rfl
theorem cA_v {T : St} {S : Sh} {j : Nat} : ∀ {k : Nat}, m_cA T S k j = h_a S j ∨ m_cA T S k j = Int32.ofNat (1 - m_from S)
  | 0 => Or.inl rfl
  | k + 1 => by
    show (if m_bit (m_board T S) k = true then up1 (m_cA T S k) k (Int32.ofNat (1 - m_from S)) else m_cA T S k) j = _ ∨ (if m_bit (m_board T S) k = true then up1 (m_cA T S k) k (Int32.ofNat (1 - m_from S)) else m_cA T S k) j = _
    by_cases c : m_bit (m_board T S) k = true
    · rw [if_pos c]
      by_cases e : j = k
      · rw [e, up1_eq]
        exact Or.inr rfl
      · rw [up1_ne e]
        exact cA_v
    · rw [if_neg c]
      exact cA_v
theorem INV_day {T : St} {S : Sh} (hT : TBB T) (hg : t_g T ≤ 6) (h : INV T S) (hd : h_d S < 400) : INV T (m_day T S) := by
  have b6 := m_from_lt S
  have e0 : ((h_d S + 1 : Nat) : Int) = (h_d S : Int) + 1 := by omega
  refine ⟨SB_day hT h.sb hg, HB_day hT h.sb hg h.hb, fun k hk => ?_, fun m hm => ?_, fun k hk => ?_, (show h_d S + 1 ≤ 400 by omega)⟩
  · show m_cA T S (t_m T) k = -1 ∨ m_cA T S (t_m T) k = 0 ∨ m_cA T S (t_m T) k = 1
    rcases cA_v (T := T) (S := S) (j := k) (k := t_m T) with e | e
    · rw [e]
      exact h.ab k hk
    · rw [e]
      have : m_from S = 0 ∨ m_from S = 1 := by omega
      rcases this with q | q
      · rw [q]
        exact Or.inr (Or.inr rfl)
      · rw [q]
        exact Or.inr (Or.inl rfl)
  · have a := h.tr m hm
    rw [t_day hm]
    show _ ∧ _ ≤ ((h_d S + 1 : Nat) : Int)
    rw [e0]
    by_cases c : m_bit (m_board T S) m = true
    · rw [if_pos c, i_addI (by rw [i_1]; omega) (by rw [i_1]; omega), i_1]
      omega
    · rw [if_neg c]
      omega
  · have a := h.cb k hk
    show 0 ≤ (m_cC T S (t_g T) k).toInt ∧ (m_cC T S (t_g T) k).toInt ≤ 40 * ((h_d S + 1 : Nat) : Int)
    rw [e0]
    by_cases c : 2 * t_g T ≤ k
    · rw [cC_ge c]
      omega
    · have f1 := fr_b hT h.sb (g := k / 2) (by omega)
      have f2 := fr_r hT h.sb (g := k / 2) (by omega)
      by_cases e : k = 2 * (k / 2) + m_from S
      · have q := cC_2 (T := T) (S := S) (k := k / 2) (g := t_g T)
        rw [← e] at q
        rw [q]
        omega
      · have e2 : k = 2 * (k / 2) + (1 - m_from S) := by omega
        have q := cC_1 (T := T) (S := S) (k := k / 2) (g := t_g T) (by omega)
        rw [← e2] at q
        rw [q, i_addI (by omega) (by omega)]
        omega
theorem INV_days {T : St} {S : Sh} (hT : TBB T) (hg : t_g T ≤ 6) (h : INV T S) : ∀ n, INV T (m_days T S n)
  | 0 => h
  | n + 1 => by
    by_cases c : h_d (m_days T S n) < 400
    · rw [m_days_s c]
      exact INV_day hT hg (INV_days hT hg h n) c
    · rw [show m_days T S (n + 1) = m_days T S n from if_neg c]
      exact INV_days hT hg h n
theorem hd_1 (T : St) (S : Sh) : (h_d S < 400 ∧ h_d (m_days T S 1) = h_d S + 1) ∨ (¬ h_d S < 400 ∧ h_d (m_days T S 1) = h_d S) := by
  by_cases c : h_d S < 400
  · refine Or.inl ⟨c, ?_⟩
    rw [show m_days T S 1 = m_day T S from if_pos c]
    rfl
  · refine Or.inr ⟨c, ?_⟩
    rw [show m_days T S 1 = S from if_neg c]
theorem alive_day {T : St} {S : Sh} (h8 : t_m T ≤ 8) {j : Nat} : m_alive (m_day T S) j = m_alive S j := alive_carry h8
theorem alive_days {T : St} {S : Sh} (h8 : t_m T ≤ 8) {j : Nat} : ∀ n, m_alive (m_days T S n) j = m_alive S j
  | 0 => rfl
  | n + 1 => by
    by_cases c : h_d (m_days T S n) < 400
    · rw [m_days_s c, alive_day h8]
      exact alive_days h8 n
    · rw [show m_days T S (n + 1) = m_days T S n from if_neg c]
      exact alive_days h8 n
/-! deeds -/
theorem why0 {S : Sh} {k : Nat} {n : Int32} (h : m_why 0 S k n = 0) : ¬ h_s S k < n := fun c => by
  have e : m_why 0 S k n = 1 := if_pos c
  rw [e] at h
  exact absurd h (by decide)
theorem why2 {S : Sh} {k : Nat} {n : Int32} (h : m_why 2 S k n = 0) : ¬ h_s S k < n := why0 h
theorem why1 {S : Sh} {k : Nat} {n : Int32} (h : m_why 1 S k n = 0) : ¬ h_h S k < n ∧ ¬ 999 < h_s S k + n := by
  by_cases c : h_h S k < n
  · have e : m_why 1 S k n = 1 := if_pos c
    rw [e] at h
    exact absurd h (by decide)
  · by_cases d : 999 < h_s S k + n
    · have e : m_why 1 S k n = 2 := (if_neg c).trans (if_pos d)
      rw [e] at h
      exact absurd h (by decide)
    · exact ⟨c, d⟩
theorem an_s (a b : Int32) : a + -b = a - b := (Int32.sub_eq_add_neg a b).symm
theorem INV_do0 {T : St} {S : Sh} {k n : Nat} (h : INV T S) (hk : k < 12) (hn : n ≤ 250) (c : ¬ h_s S k < Int32.ofNat n) : INV T (m_do 0 S k (Int32.ofNat n)) := by
  have en : (Int32.ofNat n).toInt = n := i_toInt (by omega)
  rw [Int32.lt_iff_toInt_lt, en] at c
  have sk := h.sb k hk
  have uk := h.hb k hk
  have db := h.db
  have e1 : (h_s S k + -Int32.ofNat n).toInt = (h_s S k).toInt - n := by rw [an_s, i_subI (by omega) (by omega), en]
  have e2 : (h_h S k + Int32.ofNat n).toInt = (h_h S k).toInt + n := by rw [i_addI (by omega) (by omega), en]
  refine ⟨fun j hj => ?_, fun j hj => ?_, h.ab, h.tr, h.cb, h.db⟩
  · show 0 ≤ (up1 (h_s S) k (h_s S k + -Int32.ofNat n) j).toInt ∧ (up1 (h_s S) k (h_s S k + -Int32.ofNat n) j).toInt ≤ 999
    by_cases e : j = k
    · rw [e, up1_eq, e1]
      omega
    · rw [up1_ne e]
      exact h.sb j hj
  · show 0 ≤ (up1 (h_h S) k (h_h S k + Int32.ofNat n) j).toInt ∧ (up1 (h_s S) k (h_s S k + -Int32.ofNat n) j).toInt + (up1 (h_h S) k (h_h S k + Int32.ofNat n) j).toInt ≤ 250 + 290 * (h_d S : Int)
    by_cases e : j = k
    · rw [e, up1_eq, up1_eq, e1, e2]
      omega
    · rw [up1_ne e, up1_ne e]
      exact h.hb j hj
theorem INV_do1 {T : St} {S : Sh} {k n : Nat} (h : INV T S) (hk : k < 12) (hn : n ≤ 250) (c1 : ¬ h_h S k < Int32.ofNat n) (c2 : ¬ 999 < h_s S k + Int32.ofNat n) : INV T (m_do 1 S k (Int32.ofNat n)) := by
  have en : (Int32.ofNat n).toInt = n := i_toInt (by omega)
  have sk := h.sb k hk
  have uk := h.hb k hk
  have db := h.db
  have e1 : (h_s S k + Int32.ofNat n).toInt = (h_s S k).toInt + n := by rw [i_addI (by omega) (by omega), en]
  rw [Int32.lt_iff_toInt_lt, en] at c1
  rw [Int32.lt_iff_toInt_lt, e1, i_999] at c2
  have e2 : (h_h S k - Int32.ofNat n).toInt = (h_h S k).toInt - n := by rw [i_subI (by omega) (by omega), en]
  refine ⟨fun j hj => ?_, fun j hj => ?_, h.ab, h.tr, h.cb, h.db⟩
  · show 0 ≤ (up1 (h_s S) k (h_s S k + Int32.ofNat n) j).toInt ∧ (up1 (h_s S) k (h_s S k + Int32.ofNat n) j).toInt ≤ 999
    by_cases e : j = k
    · rw [e, up1_eq, e1]
      omega
    · rw [up1_ne e]
      exact h.sb j hj
  · show 0 ≤ (up1 (h_h S) k (h_h S k - Int32.ofNat n) j).toInt ∧ (up1 (h_s S) k (h_s S k + Int32.ofNat n) j).toInt + (up1 (h_h S) k (h_h S k - Int32.ofNat n) j).toInt ≤ 250 + 290 * (h_d S : Int)
    by_cases e : j = k
    · rw [e, up1_eq, up1_eq, e1, e2]
      omega
    · rw [up1_ne e, up1_ne e]
      exact h.hb j hj
theorem INV_do2 {T : St} {S : Sh} {k n : Nat} (h : INV T S) (hk : k < 12) (hn : n ≤ 250) (c : ¬ h_s S k < Int32.ofNat n) : INV T (m_do 2 S k (Int32.ofNat n)) := by
  have en : (Int32.ofNat n).toInt = n := i_toInt (by omega)
  rw [Int32.lt_iff_toInt_lt, en] at c
  have sk := h.sb k hk
  have uk := h.hb k hk
  have db := h.db
  have e1 : (h_s S k + -Int32.ofNat n).toInt = (h_s S k).toInt - n := by rw [an_s, i_subI (by omega) (by omega), en]
  refine ⟨fun j hj => ?_, fun j hj => ?_, h.ab, h.tr, h.cb, h.db⟩
  · show 0 ≤ (up1 (h_s S) k (h_s S k + -Int32.ofNat n) j).toInt ∧ (up1 (h_s S) k (h_s S k + -Int32.ofNat n) j).toInt ≤ 999
    by_cases e : j = k
    · rw [e, up1_eq, e1]
      omega
    · rw [up1_ne e]
      exact h.sb j hj
  · show 0 ≤ (h_h S j).toInt ∧ (up1 (h_s S) k (h_s S k + -Int32.ofNat n) j).toInt + (h_h S j).toInt ≤ 250 + 290 * (h_d S : Int)
    have uj := h.hb j hj
    by_cases e : j = k
    · rw [e, up1_eq, e1]
      omega
    · rw [up1_ne e]
      exact uj
theorem INV_do3 {T : St} {S : Sh} {k : Nat} {n : Int32} (h : INV T S) : INV T (m_do 3 S k n) := by
  refine ⟨h.sb, h.hb, fun j hj => ?_, h.tr, h.cb, h.db⟩
  show up1 (h_a S) k (-1) j = -1 ∨ up1 (h_a S) k (-1) j = 0 ∨ up1 (h_a S) k (-1) j = 1
  by_cases e : j = k
  · rw [e, up1_eq]
    exact Or.inl rfl
  · rw [up1_ne e]
    exact h.ab j hj
theorem INV_try {T : St} {S : Sh} {d k n : Nat} (h : INV T S) (hd : d < 3) (hk : k < 12) (hn : n ≤ 250) : INV T (m_try d S k (Int32.ofNat n)) := by
  unfold m_try
  by_cases c : m_why d S k (Int32.ofNat n) = 0
  · rw [if_pos c]
    match d, hd, c with
    | 0, _, c => exact INV_do0 h hk hn (why0 c)
    | 1, _, c => exact INV_do1 h hk hn (why1 c).1 (why1 c).2
    | 2, _, c => exact INV_do2 h hk hn (why2 c)
    | d + 3, q, _ => exact absurd q (by omega)
  · rw [if_neg c]
    exact h
theorem INV_try3 {T : St} {S : Sh} {k : Nat} {n : Int32} (h : INV T S) : INV T (m_try 3 S k n) := by
  unfold m_try
  by_cases c : m_why 3 S k n = 0
  · rw [if_pos c]
    exact INV_do3 h
  · rw [if_neg c]
    exact h
theorem INV_dD {T : St} {S : Sh} {x : Int32} (h : INV T S) (hg : t_g T ≤ 6) (h0 : 0 < t_g T) : INV T (m_dDs T S x) := by
  unfold m_dDs
  by_cases c : dr (m_nx x) 6 < 3
  · rw [if_pos c]
    have a1 : dr (m_nx (m_nx x)) (t_g T) < t_g T := Nat.mod_lt _ h0
    have a2 : dr (m_nx (m_nx (m_nx x))) 2 < 2 := Nat.mod_lt _ (by decide)
    have a3 : dr (m_nx (m_nx (m_nx (m_nx x)))) 20 < 20 := Nat.mod_lt _ (by decide)
    exact INV_try h c (by omega) (by omega)
  · rw [if_neg c]
    exact h
theorem INV_dX {T : St} {S : Sh} {x : Int32} (h : INV T S) : INV T (m_dXs T S x) := by
  unfold m_dXs
  by_cases c : dr (m_nx x) 90 = 0 ∧ 0 < t_m T
  · rw [if_pos c]
    exact INV_try3 h
  · rw [if_neg c]
    exact h
theorem INV_drawn {T : St} {q : Sh × Int32} (hT : TBB T) (hg : t_g T ≤ 6) (h0 : 0 < t_g T) (h : INV T q.1) : ∀ n, INV T (m_drawn T q n).1
  | 0 => h
  | n + 1 => by
    have ih := INV_drawn hT hg h0 h n
    by_cases c : h_d (m_drawn T q n).1 < 400
    · rw [drawn_1 c]
      exact INV_day hT hg (INV_dX (INV_dD ih hg h0)) (by rw [h_d_drawX, h_d_drawD]; exact c)
    · rw [show m_drawn T q (n + 1) = m_drawn T q n from if_neg c]
      exact ih
theorem INV_act {T : St} {S : Sh} {d : Nat} {x y z : Int32} (h : INV T S) (hg : t_g T ≤ 6) (hd : d < 3) : INV T (m_act d T S x y z) := by
  unfold m_act
  split
  · rename_i g s n e1 e2 e3
    have a1 := (nd_some e1).1
    have a2 := (nd_some e2).1
    have a3 := (ndr_some e3).2.1
    exact INV_try h hd (by omega) a3
  · exact h
theorem INV_die {T : St} {S : Sh} {x : Int32} (h : INV T S) : INV T (m_die T S x) := by
  unfold m_die
  split
  · exact h
  · exact INV_try3 h
theorem INV_dys {T : St} {S : Sh} {x : Int32} (h : INV T S) (hT : TBB T) (hg : t_g T ≤ 6) : INV T (m_dys T S x) := by
  unfold m_dys
  split
  · exact h
  · exact INV_days hT hg h _
theorem INV_dwn {T : St} {S : Sh} {x z : Int32} (h : INV T S) (hT : TBB T) (hg : t_g T ≤ 6) : INV T (m_dwn T S x z) := by
  unfold m_dwn
  split
  · exact h
  · rename_i k e
    by_cases c : t_g T = 0
    · rw [if_pos c]
      exact h
    · rw [if_neg c]
      exact INV_drawn (q := (S, z)) hT hg (by omega) h k
/-! ===== the first DAY on which somebody, something crosses, by what is counted ===== -/
theorem m_fst_l {P : Nat → Bool} {k : Nat} (h : m_fst P (k + 1) = none) : m_fst P k = none ∧ P k = false := by
  refine ⟨?_, m_fst_all h k (Nat.lt_succ_self k)⟩
  unfold m_fst at h
  split at h
  · cases h
  · rename_i e
    exact e
theorem t_days {T : St} {S : Sh} {m : Nat} (hm : m < t_m T) : ∀ {k : Nat}, m_fst (pCross T S m) k = none → h_t (m_days T S k) m = h_t S m
  | 0, _ => rfl
  | k + 1, h => by
    obtain ⟨h1, h2⟩ := m_fst_l h
    by_cases c : h_d (m_days T S k) < 400
    · rw [m_days_s c, t_day hm]
      unfold pCross at h2
      rw [decide_eq_true c, Bool.true_and] at h2
      rw [if_neg (by rw [h2]; decide)]
      exact t_days hm h1
    · rw [show m_days T S (k + 1) = m_days T S k from if_neg c]
      exact t_days hm h1
theorem cross_iff {T : St} {S : Sh} {m k : Nat} (hm : m < t_m T) (hI : INV T S) (h : m_fst (pCross T S m) k = none) (c : h_d (m_days T S k) < 400) : h_t S m < h_t (m_days T S (k + 1)) m ↔ pCross T S m k = true := by
  have a := hI.tr m hm
  have d := hI.db
  rw [m_days_s c, t_day hm, t_days hm h]
  unfold pCross
  rw [decide_eq_true c, Bool.true_and]
  by_cases q : m_bit (m_board T (m_days T S k)) m = true
  · rw [if_pos q, Int32.lt_iff_toInt_lt, i_addI (by rw [i_1]; omega) (by rw [i_1]; omega), i_1]
    exact ⟨fun _ => q, fun _ => by omega⟩
  · rw [if_neg q, Int32.lt_iff_toInt_lt]
    exact ⟨fun z => absurd z (by omega), fun z => absurd z q⟩
theorem i_z {a : Int32} (h1 : 0 ≤ a.toInt) (h2 : a ≤ 0) : a = 0 := by
  rw [Int32.le_iff_toInt_le, i_0] at h2
  exact Int32.toInt_inj.mp (by rw [i_0]; omega)
theorem c_days {T : St} {S : Sh} {g s : Nat} (hT : TBB T) (hg6 : t_g T ≤ 6) (hI : INV T S) (hg : g < t_g T) (hs : s < 2) : ∀ {k : Nat}, m_fst (pComes T S g s) k = none → h_c (m_days T S k) (2 * g + s) = h_c S (2 * g + s)
  | 0, _ => rfl
  | k + 1, h => by
    obtain ⟨h1, h2⟩ := m_fst_l h
    have ih := c_days hT hg6 hI hg hs h1
    by_cases c : h_d (m_days T S k) < 400
    · rw [m_days_s c, c_day hg hs]
      by_cases q : m_from (m_days T S k) = s
      · rw [if_pos q]
        exact ih
      · unfold pComes at h2
        rw [decide_eq_true c, Bool.true_and, decide_eq_false q, Bool.not_false, Bool.true_and, Bool.not_eq_false'] at h2
        have f := fr_b hT (INV_days hT hg6 hI k).sb (g := g) (by omega)
        rw [if_neg q, ih, i_z f.1 (of_decide_eq_true h2), Int32.add_zero]
    · rw [show m_days T S (k + 1) = m_days T S k from if_neg c]
      exact ih
theorem comes_iff {T : St} {S : Sh} {g s k : Nat} (hT : TBB T) (hg6 : t_g T ≤ 6) (hI : INV T S) (hg : g < t_g T) (hs : s < 2) (h : m_fst (pComes T S g s) k = none) (c : h_d (m_days T S k) < 400) : h_c S (2 * g + s) < h_c (m_days T S (k + 1)) (2 * g + s) ↔ pComes T S g s k = true := by
  have a := hI.cb (2 * g + s) (by omega)
  have d := hI.db
  have f := fr_b hT (INV_days hT hg6 hI k).sb (g := g) (by omega)
  have f2 := fr_r hT (INV_days hT hg6 hI k).sb (g := g) (by omega)
  rw [m_days_s c, c_day hg hs, c_days hT hg6 hI hg hs h]
  unfold pComes
  rw [decide_eq_true c, Bool.true_and]
  by_cases q : m_from (m_days T S k) = s
  · rw [if_pos q, decide_eq_true q, Int32.lt_iff_toInt_lt]
    exact ⟨fun z => absurd z (by omega), fun z => by cases z⟩
  · rw [if_neg q, decide_eq_false q, Int32.lt_iff_toInt_lt, i_addI (by omega) (by omega), Bool.not_false, Bool.true_and, Bool.not_eq_true', decide_eq_false_iff_not, Int32.le_iff_toInt_le, i_0]
    omega
theorem aDay_n {T : St} {S : Sh} {q : Option Nat} (hI : ∀ k, h_d (m_days T S k) ≤ 400) (h : aDay T S q < 0) : q = none := by
  cases q with
  | none => rfl
  | some k =>
    have e : aDay T S (some k) = Int32.ofNat (h_d (m_days T S k)) := rfl
    have b := hI k
    rw [e, Int32.lt_iff_toInt_lt, i_toInt (by omega), i_0] at h
    omega
theorem aDay_s {T : St} {S : Sh} {P : Nat → Bool} {k n : Nat} (hk : k ≤ n) (h : ¬ aDay T S (m_fst P k) < 0) : aDay T S (m_fst P n) = aDay T S (m_fst P k) := by
  cases e : m_fst P k with
  | none =>
    rw [e] at h
    exact absurd (show (-1 : Int32) < 0 by decide) h
  | some i =>
    have : ∀ j, m_fst P (k + j) = some i := fun j => by
      induction j with
      | zero => exact e
      | succ j ih =>
        show m_fst P (k + j + 1) = some i
        unfold m_fst
        rw [ih]
    have t := this (n - k)
    rw [show k + (n - k) = n by omega] at t
    rw [t]
/-! what is alive when a MAN dies; bits of the dead -/
theorem alive_do3 {S : Sh} {k j : Nat} {n : Int32} : m_alive (m_do 3 S k n) j = (m_alive S j && !decide (k = j)) := by
  show (!decide (up1 (h_a S) k (-1) j = -1)) = _
  by_cases e : j = k
  · rw [e, up1_eq]
    simp
  · rw [up1_ne e]
    unfold m_alive
    rw [decide_eq_false (fun q : k = j => e q.symm)]
    simp
theorem xbit_or {b : Int32} {m j : Nat} (hm : m < 32) (hj : j < 32) : xbit (b ||| 1 <<< (Int32.ofNat m &&& 31)) j = (xbit b j || decide (m = j)) := by
  rw [xbit_bt hj, xbit_bt hj, bt_or, bt_sh hm]
end
-- 63.b67.try.lean.txt
section
/-! ===== the reference tries: what was so is kept apart, and laid back ===== -/
def RT (F G : FW) : Prop := FX (fun q => q = 69 ∨ q = 71 ∨ q = 78 ∨ q = 79) F G ∧ (∀ k, k < 133 → G.1 78 k = F.1 71 (120 + k)) ∧ (∀ k, k < 120 ∨ 253 ≤ k → G.1 71 k = F.1 71 k) ∧ ∀ k, k ≠ 0 → k ≠ 22 → k ≠ 29 → G.1 69 k = F.1 69 k
theorem RT.of {F F1 G : FW} (r : RDR F F1) (x : FX (fun q => q = 78) F1 G) (a : ∀ k, k < 133 → G.1 78 k = F1.1 71 (120 + k)) : RT F G :=
  ⟨r.1.tr (x.wd fun q (c : q = 78) => Or.inr (Or.inr (Or.inl c))), fun k hk => (a k hk).trans (r.2.1 _), fun k _ => (x.1 71 k (by decide)).trans (r.2.1 k), fun k h1 h2 h3 => (x.1 69 k (by decide)).trans (r.2.2 k h1 h2 h3)⟩
theorem RT.ofS {F F1 G : FW} {m : Nat} {S : Sh} (r : RDR F F1) (x : FX (fun q => q = 78) F1 G) (hm : m ≤ 8) (hS : XS F m S) : XS G m S := (r.S hm hS).fx hm x (by decide)
theorem RT.rx {F G K : FW} (h : RT F G) (x : RX G K) : RT F K :=
  ⟨h.1.tr (x.1.wd fun q (c : q = 69 ∨ q = 71) => c.elim Or.inl (fun e => Or.inr (Or.inl e))), fun k hk => (x.1.1 78 k (by decide)).trans (h.2.1 k hk), fun k hk => (x.2.2 k hk).trans (h.2.2.1 k hk), fun k h1 h2 h3 => (x.2.1 k h2).trans (h.2.2.2 k h1 h2 h3)⟩
theorem RT.sd {F G : FW} {k : Nat} {v : Int32} (h : RT F G) (c : k = 0 ∨ k = 22 ∨ k = 29) : RT F (fp G 69 k v) :=
  ⟨h.1.fp (Or.inl rfl), fun j hj => (fp_ne (Or.inl (by decide))).trans (h.2.1 j hj), fun j hj => (fp_ne (Or.inl (by decide))).trans (h.2.2.1 j hj), fun j h1 h2 h3 => (fp_ne (Or.inr (by omega))).trans (h.2.2.2 j h1 h2 h3)⟩
theorem RT.st {F G : FW} {k : Nat} {v : Int32} (h : RT F G) (a : 120 ≤ k) (b : k < 253) : RT F (fp G 71 k v) :=
  ⟨h.1.fp (Or.inr (Or.inl rfl)), fun j hj => (fp_ne (Or.inl (by decide))).trans (h.2.1 j hj), fun j hj => (fp_ne (Or.inr (by omega))).trans (h.2.2.1 j hj), fun j h1 h2 h3 => (fp_ne (Or.inl (by decide))).trans (h.2.2.2 j h1 h2 h3)⟩
theorem RT.T {F G : FW} {T : St} (h : RT F G) (t : XT F T) : XT G T := t.of fun k hk => h.2.2.1 k (Or.inl hk)
theorem RT.G {F G : FW} (h : RT F G) (g : GW F) : GW G := g.fx h.1
/-- laid back: all is as it was -/
theorem RT.bk {F G K : FW} (h : RT F G) (x : FX (fun q => q = 71) G K) (a : ∀ k, k < 133 → K.1 71 (120 + k) = G.1 78 k) (b : ∀ k, k < 120 ∨ 253 ≤ k → K.1 71 k = G.1 71 k) : RDR F K :=
  ⟨h.1.tr (x.wd fun q (c : q = 71) => Or.inr (Or.inl c)), fun k => by
    rcases Classical.em (k < 120 ∨ 253 ≤ k) with c | c
    · exact (b k c).trans (h.2.2.1 k c)
    · have e := (a (k - 120) (by omega)).trans (h.2.1 (k - 120) (by omega))
      rw [show 120 + (k - 120) = k by omega] at e
      exact e, fun k h1 h2 h3 => (x.1 69 k (by decide)).trans (h.2.2.2 k h1 h2 h3)⟩
theorem RT.bkT {F G K : FW} (h : RT F G) (x : FX (fun q => q = 71) G K) (a : ∀ k, k < 133 → K.1 71 (120 + k) = G.1 78 k) (b : ∀ k, k < 120 ∨ 253 ≤ k → K.1 71 k = G.1 71 k) : RT F K :=
  ⟨(h.bk x a b).1, fun k hk => (x.1 78 k (by decide)).trans (h.2.1 k hk), fun k _ => (h.bk x a b).2.1 k, (h.bk x a b).2.2⟩
theorem XS.die {F : FW} {m k : Nat} {S : Sh} (h : XS F m S) (hm : m ≤ 8) (hk : k < m) : XS (fp F 71 180 (F.1 71 180 ||| 1 <<< (Int32.ofNat k &&& 31))) m (m_do 3 S k 0) := by
  have n : ∀ j, j ≠ 180 → (fp F 71 180 (F.1 71 180 ||| 1 <<< (Int32.ofNat k &&& 31))).1 71 j = F.1 71 j := fun j hj => fp_ne (Or.inr hj)
  have l : ∀ j, m_alive (m_do 3 S k 0) j = true → j ≠ k ∧ m_alive S j = true := fun j e => by
    rw [alive_do3, Bool.and_eq_true, Bool.not_eq_true', decide_eq_false_iff_not] at e
    exact ⟨fun q => e.2 q.symm, e.1⟩
  refine ⟨h.db, (n _ (by decide)).trans h.d, (n _ (by decide)).trans h.i, (n _ (by decide)).trans h.r, (n _ (by decide)).trans h.st, fun j hj => (n _ (by omega)).trans (h.s j hj), fun j hj => (n _ (by omega)).trans (h.h j hj), fun j hj => (n _ (by omega)).trans (h.u j hj), fun j hj => (n _ (by omega)).trans (h.c j hj),
    fun j hj => ?_, fun j hj e => ?_, fun j hj => (n _ (by omega)).trans (h.t j hj), fun i j hi hj c a b => ?_⟩
  · rw [fp_eq, xbit_or (by omega) (by omega), h.de hj, alive_do3]
    cases m_alive S j <;> cases decide (k = j) <;> rfl
  · obtain ⟨q1, q2⟩ := l j e
    rw [n _ (by omega), h.a hj q2]
    exact (up1_ne q1).symm
  · exact (n _ (by omega)).trans (h.p hi hj c (l i a).2 (l j b).2)
theorem XS.dead {F : FW} {m k : Nat} {S : Sh} (h : XS F m S) (hm : m ≤ 8) (hk : k < m) (d : m_alive S k = false) : XS (fp F 71 180 (F.1 71 180 ||| 1 <<< (Int32.ofNat k &&& 31))) m S := by
  have n : ∀ j, j ≠ 180 → (fp F 71 180 (F.1 71 180 ||| 1 <<< (Int32.ofNat k &&& 31))).1 71 j = F.1 71 j := fun j hj => fp_ne (Or.inr hj)
  refine ⟨h.db, (n _ (by decide)).trans h.d, (n _ (by decide)).trans h.i, (n _ (by decide)).trans h.r, (n _ (by decide)).trans h.st, fun j hj => (n _ (by omega)).trans (h.s j hj), fun j hj => (n _ (by omega)).trans (h.h j hj), fun j hj => (n _ (by omega)).trans (h.u j hj), fun j hj => (n _ (by omega)).trans (h.c j hj),
    fun j hj => ?_, fun j hj e => (n _ (by omega)).trans (h.a hj e), fun j hj => (n _ (by omega)).trans (h.t j hj), fun i j hi hj c a b => (n _ (by omega)).trans (h.p hi hj c a b)⟩
  rw [fp_eq, xbit_or (by omega) (by omega), h.de hj]
  by_cases e : k = j
  · subst e
    rw [d]
    rfl
  · rw [decide_eq_false e, Bool.or_false]
theorem XS.die3 {F : FW} {m k : Nat} {S : Sh} (h : XS F m S) (hm : m ≤ 8) (hk : k < m) : XS (fp F 71 180 (F.1 71 180 ||| 1 <<< (Int32.ofNat k &&& 31))) m (m_try 3 S k 0) := by
  unfold m_try
  by_cases c : m_alive S k = true
  · have e : m_why 3 S k 0 = 0 := if_pos c
    rw [if_pos e]
    exact h.die hm hk
  · have e : m_why 3 S k 0 = 1 := if_neg c
    rw [if_neg (by rw [e]; decide)]
    exact h.dead hm hk (by simpa using c)
/-- stock and hoard of one slot anew -/
theorem XS.two {F : FW} {m k : Nat} {S : Sh} {v w : Int32} (h : XS F m S) (hm : m ≤ 8) (hk : k < 12) : XS (fp (fp F 71 (124 + k) v) 71 (136 + k) w) m (up1 (h_s S) k v, up1 (h_h S) k w, S.2.2) := by
  have n : ∀ j, (j < 124 ∨ 148 ≤ j) → (fp (fp F 71 (124 + k) v) 71 (136 + k) w).1 71 j = F.1 71 j := fun j hj => (fp_ne (Or.inr (by omega))).trans (fp_ne (Or.inr (by omega)))
  refine ⟨h.db, (n _ (by omega)).trans h.d, (n _ (by omega)).trans h.i, (n _ (by omega)).trans h.r, (n _ (by omega)).trans h.st, h.s.up.ne (by omega), (h.h.ne (by omega)).up, fun j hj => (n _ (by omega)).trans (h.u j hj), fun j hj => (n _ (by omega)).trans (h.c j hj),
    fun j hj => ?_, fun j hj e => (n _ (by omega)).trans (h.a hj e), fun j hj => (n _ (by omega)).trans (h.t j hj), fun i j hi hj c a b => (n _ (by omega)).trans (h.p hi hj c a b)⟩
  rw [n _ (by omega)]
  exact h.de hj
theorem XS.one {F : FW} {m k : Nat} {S : Sh} {v : Int32} (h : XS F m S) (hm : m ≤ 8) (hk : k < 12) : XS (fp F 71 (124 + k) v) m (up1 (h_s S) k v, S.2) := by
  have n : ∀ j, (j < 124 ∨ 136 ≤ j) → (fp F 71 (124 + k) v).1 71 j = F.1 71 j := fun j hj => fp_ne (Or.inr (by omega))
  refine ⟨h.db, (n _ (by omega)).trans h.d, (n _ (by omega)).trans h.i, (n _ (by omega)).trans h.r, (n _ (by omega)).trans h.st, h.s.up, fun j hj => (n _ (by omega)).trans (h.h j hj), fun j hj => (n _ (by omega)).trans (h.u j hj), fun j hj => (n _ (by omega)).trans (h.c j hj),
    fun j hj => ?_, fun j hj e => (n _ (by omega)).trans (h.a hj e), fun j hj => (n _ (by omega)).trans (h.t j hj), fun i j hi hj c a b => (n _ (by omega)).trans (h.p hi hj c a b)⟩
  rw [n _ (by omega)]
  exact h.de hj
/-- the reference's own cells, what is kept of the past among them -/
def RKX (F G : FW) : Prop := FX (fun q => q = 69 ∨ q = 71 ∨ q = 77 ∨ q = 78) F G ∧ (∀ k, k ≠ 0 → k ≠ 22 → k ≠ 25 → k ≠ 29 → G.1 69 k = F.1 69 k) ∧ ∀ k, k < 120 ∨ 253 ≤ k → G.1 71 k = F.1 71 k
theorem RKX.rf {F : FW} : RKX F F := ⟨FX.rf, fun _ _ _ _ _ => rfl, fun _ _ => rfl⟩
theorem RKX.tr {F G H : FW} (a : RKX F G) (b : RKX G H) : RKX F H := ⟨a.1.tr b.1, fun k h1 h2 h3 h4 => (b.2.1 k h1 h2 h3 h4).trans (a.2.1 k h1 h2 h3 h4), fun k h => (b.2.2 k h).trans (a.2.2 k h)⟩
theorem RKX.rx {F G K : FW} (h : RKX F G) (x : RX G K) : RKX F K := ⟨h.1.tr (x.1.wd fun q (c : q = 69 ∨ q = 71) => c.elim Or.inl (fun e => Or.inr (Or.inl e))), fun k h1 h2 h3 h4 => (x.2.1 k h2).trans (h.2.1 k h1 h2 h3 h4), fun k hk => (x.2.2 k hk).trans (h.2.2 k hk)⟩
theorem RKX.st {F G : FW} {k : Nat} {v : Int32} (h : RKX F G) (a : 120 ≤ k) (b : k < 253) : RKX F (fp G 71 k v) := ⟨h.1.fp (Or.inr (Or.inl rfl)), fun j h1 h2 h3 h4 => (fp_ne (Or.inl (by decide))).trans (h.2.1 j h1 h2 h3 h4), fun j hj => (fp_ne (Or.inr (by omega))).trans (h.2.2 j hj)⟩
theorem RKX.fp {F G : FW} {k : Nat} {v : Int32} (h : RKX F G) (c : k = 0 ∨ k = 22 ∨ k = 25 ∨ k = 29) : RKX F (fp G 69 k v) := ⟨h.1.fp (Or.inl rfl), fun j h1 h2 h3 h4 => (fp_ne (Or.inr (by omega))).trans (h.2.1 j h1 h2 h3 h4), fun j hj => (fp_ne (Or.inl (by decide))).trans (h.2.2 j hj)⟩
theorem RKX.T {F G : FW} {T : St} (h : RKX F G) (t : XT F T) : XT G T := t.of fun k hk => h.2.2 k (Or.inl hk)
theorem RKX.G {F G : FW} (h : RKX F G) (g : GW F) : GW G := g.fx h.1
end
-- 63.b68.pure3.lean.txt
section
/-! ===== what the reference's looking calls want of the model ===== -/
theorem fr_eq0 {T : St} {S : Sh} (hT : TBB T) (hS : SB S) {g k : Nat} (hk : k = g) (hD : h_d S < 400) (hg : g < 6) : m_less (t_l T - m_pg T S k) (m_less (h_s S (2 * g + m_from S)) (m_lackr (t_a T (1 * 12 + (2 * g + (1 - m_from S)))) (h_s S (2 * g + (1 - m_from S))))) = m_fr T S g := by
  subst hk
  have e := fr_eq hT hS hD hg
  rw [cS_ge (by omega), cS_ge (by omega)] at e
  exact e
theorem fr_400 {T : St} {S : Sh} (hT : TBB T) (hS : SB S) {g : Nat} (hg : g < 6) (h : 400 ≤ h_d S) : m_fr T S g = 0 := by
  have b6 := m_from_lt S
  have er : m_room T S = 0 := if_neg (by omega)
  have p := pg_b hT hS g (by omega)
  rw [er, i_0] at p
  have h1 := i_subI (a := m_room T S) (b := m_pg T S g) (by rw [er, i_0]; omega) (by rw [er, i_0]; omega)
  have h2 := moved_b (s := h_s S (2 * g + m_from S)) (l := m_lack T S (2 * g + (1 - m_from S))) (r := m_room T S - m_pg T S g) (hS _ (by omega)).1 (lack_b hT hS (by omega)).1 (by rw [h1, er, i_0]; omega)
  rw [h1, er, i_0] at h2
  refine Int32.toInt_inj.mp ?_
  rw [i_0]
  show (m_moved _ _ _).toInt = 0
  rw [er]
  omega
theorem meet_f {T : St} {S : Sh} {m o k : Nat} (a1 : m_alive S m = true) (a2 : m_alive S o = true) (h8 : t_m T ≤ 8) (h : m_unl (m_days T S k) m o = true) : pMeet T S m o k = false := by
  unfold m_unl at h
  rw [alive_days h8, alive_days h8, a1, a2] at h
  unfold pMeet
  simpa using h
theorem meet_t {T : St} {S : Sh} {m o k : Nat} (a1 : m_alive S m = true) (a2 : m_alive S o = true) (h8 : t_m T ≤ 8) (h : m_unl (m_days T S k) m o = false) : pMeet T S m o k = true := by
  unfold m_unl at h
  rw [alive_days h8, alive_days h8, a1, a2] at h
  unfold pMeet
  simpa using h
/-! tries with prices -/
def RDP (F G : FW) : Prop := FX (fun q => q = 69 ∨ q = 71 ∨ q = 78 ∨ q = 80) F G ∧ (∀ k, G.1 71 k = F.1 71 k) ∧ ∀ k, k ≠ 0 → k ≠ 22 → k ≠ 28 → G.1 69 k = F.1 69 k
theorem RDP.rf {F : FW} : RDP F F := ⟨FX.rf, fun _ => rfl, fun _ _ _ _ => rfl⟩
theorem RDP.pr {F G : FW} {k : Nat} {v : Int32} (h : RDP F G) : RDP F (fp G 80 k v) := ⟨h.1.fp (Or.inr (Or.inr (Or.inr rfl))), fun j => (fp_ne (Or.inl (by decide))).trans (h.2.1 j), fun j h1 h2 h3 => (fp_ne (Or.inl (by decide))).trans (h.2.2 j h1 h2 h3)⟩
theorem RDP.fp {F G : FW} {k : Nat} {v : Int32} (h : RDP F G) (c : k = 0 ∨ k = 22 ∨ k = 28) : RDP F (fp G 69 k v) := ⟨h.1.fp (Or.inl rfl), fun j => (fp_ne (Or.inl (by decide))).trans (h.2.1 j), fun j h1 h2 h3 => (fp_ne (Or.inr (by omega))).trans (h.2.2 j h1 h2 h3)⟩
theorem RDP.T {F G : FW} {T : St} (h : RDP F G) (t : XT F T) : XT G T := t.of fun k _ => h.2.1 k
theorem RDP.S {F G : FW} {m : Nat} {S : Sh} (h : RDP F G) (hm : m ≤ 8) (t : XS F m S) : XS G m S := t.of hm fun k _ _ => h.2.1 k
theorem RDP.G {F G : FW} (h : RDP F G) (g : GW F) : GW G := g.fx h.1
def RTP (F G : FW) : Prop := FX (fun q => q = 69 ∨ q = 71 ∨ q = 78 ∨ q = 80) F G ∧ (∀ k, k < 133 → G.1 78 k = F.1 71 (120 + k)) ∧ (∀ k, k < 120 ∨ 253 ≤ k → G.1 71 k = F.1 71 k) ∧ ∀ k, k ≠ 0 → k ≠ 22 → k ≠ 28 → G.1 69 k = F.1 69 k
theorem RTP.of {F F1 G : FW} (r : RDP F F1) (x : FX (fun q => q = 78) F1 G) (a : ∀ k, k < 133 → G.1 78 k = F1.1 71 (120 + k)) : RTP F G :=
  ⟨r.1.tr (x.wd fun q (c : q = 78) => Or.inr (Or.inr (Or.inl c))), fun k hk => (a k hk).trans (r.2.1 _), fun k _ => (x.1 71 k (by decide)).trans (r.2.1 k), fun k h1 h2 h3 => (x.1 69 k (by decide)).trans (r.2.2 k h1 h2 h3)⟩
theorem RTP.ofS {F F1 G : FW} {m : Nat} {S : Sh} (r : RDP F F1) (x : FX (fun q => q = 78) F1 G) (hm : m ≤ 8) (hS : XS F m S) : XS G m S := (r.S hm hS).fx hm x (by decide)
theorem RTP.rx {F G K : FW} (h : RTP F G) (x : RX G K) : RTP F K :=
  ⟨h.1.tr (x.1.wd fun q (c : q = 69 ∨ q = 71) => c.elim Or.inl (fun e => Or.inr (Or.inl e))), fun k hk => (x.1.1 78 k (by decide)).trans (h.2.1 k hk), fun k hk => (x.2.2 k hk).trans (h.2.2.1 k hk), fun k h1 h2 h3 => (x.2.1 k h2).trans (h.2.2.2 k h1 h2 h3)⟩
theorem RTP.pr {F G : FW} {k : Nat} {v : Int32} (h : RTP F G) : RTP F (fp G 80 k v) :=
  ⟨h.1.fp (Or.inr (Or.inr (Or.inr rfl))), fun j hj => (fp_ne (Or.inl (by decide))).trans (h.2.1 j hj), fun j hj => (fp_ne (Or.inl (by decide))).trans (h.2.2.1 j hj), fun j h1 h2 h3 => (fp_ne (Or.inl (by decide))).trans (h.2.2.2 j h1 h2 h3)⟩
theorem RTP.T {F G : FW} {T : St} (h : RTP F G) (t : XT F T) : XT G T := t.of fun k hk => h.2.2.1 k (Or.inl hk)
theorem RTP.G {F G : FW} (h : RTP F G) (g : GW F) : GW G := g.fx h.1
theorem RTP.bk {F G K : FW} (h : RTP F G) (x : FX (fun q => q = 71) G K) (a : ∀ k, k < 133 → K.1 71 (120 + k) = G.1 78 k) (b : ∀ k, k < 120 ∨ 253 ≤ k → K.1 71 k = G.1 71 k) : RDP F K :=
  ⟨h.1.tr (x.wd fun q (c : q = 71) => Or.inr (Or.inl c)), fun k => by
    rcases Classical.em (k < 120 ∨ 253 ≤ k) with c | c
    · exact (b k c).trans (h.2.2.1 k c)
    · have e := (a (k - 120) (by omega)).trans (h.2.1 (k - 120) (by omega))
      rw [show 120 + (k - 120) = k by omega] at e
      exact e, fun k h1 h2 h3 => (x.1 69 k (by decide)).trans (h.2.2.2 k h1 h2 h3)⟩
theorem XS.up80 {F : FW} {m k : Nat} {S : Sh} {v : Int32} (h : XS F m S) (hm : m ≤ 8) : XS (fp F 80 k v) m S := h.of hm fun j _ _ => fp_ne (Or.inl (by decide))
theorem GW.fpp {F : FW} {a k : Nat} {v : Int32} (h : GW F) : GW (fp F a k v) := fun q m => h q m
theorem XT.up80 {F : FW} {k : Nat} {T : St} {v : Int32} (h : XT F T) : XT (fp F 80 k v) T := h.of fun j _ => fp_ne (Or.inl (by decide))
theorem i_ne1 (a : Int32) : ¬ a + 1 = a := fun h => by
  have e : a + 1 - a = a - a := by rw [h]
  rw [Int32.sub_self, Int32.add_comm, Int32.sub_eq_add_neg, Int32.add_assoc, Int32.add_right_neg, Int32.add_zero] at e
  exact absurd e (by decide)
theorem i_ne2 (a : Int32) : ¬ a - 1 = a := fun h => by
  have e : a - 1 + 1 = a + 1 := by rw [h]
  rw [Int32.sub_add_cancel] at e
  exact i_ne1 a e.symm
/-! seeds: what the reference's drawing writes -/
def RXS (F G : FW) : Prop := FX (fun q => q = 69 ∨ q = 71) F G ∧ (∀ k, k ≠ 22 → k ≠ 29 → G.1 69 k = F.1 69 k) ∧ ∀ k, k < 120 ∨ 253 ≤ k → G.1 71 k = F.1 71 k
theorem RXS.rf {F : FW} : RXS F F := ⟨FX.rf, fun _ _ _ => rfl, fun _ _ => rfl⟩
theorem RXS.tr {F G H : FW} (a : RXS F G) (b : RXS G H) : RXS F H := ⟨a.1.tr b.1, fun k h1 h2 => (b.2.1 k h1 h2).trans (a.2.1 k h1 h2), fun k h => (b.2.2 k h).trans (a.2.2 k h)⟩
theorem RXS.rx {F G K : FW} (h : RXS F G) (x : RX G K) : RXS F K := ⟨h.1.tr x.1, fun k h1 h2 => (x.2.1 k h1).trans (h.2.1 k h1 h2), fun k hk => (x.2.2 k hk).trans (h.2.2 k hk)⟩
theorem RXS.sd {F G : FW} {k : Nat} {v : Int32} (h : RXS F G) (c : k = 22 ∨ k = 29) : RXS F (fp G 69 k v) := ⟨h.1.fp (Or.inl rfl), fun j h1 h2 => (fp_ne (Or.inr (by omega))).trans (h.2.1 j h1 h2), fun j hj => (fp_ne (Or.inl (by decide))).trans (h.2.2 j hj)⟩
theorem RXS.st {F G : FW} {k : Nat} {v : Int32} (h : RXS F G) (a : 120 ≤ k) (b : k < 253) : RXS F (fp G 71 k v) := ⟨h.1.fp (Or.inr rfl), fun j h1 h2 => (fp_ne (Or.inl (by decide))).trans (h.2.1 j h1 h2), fun j hj => (fp_ne (Or.inr (by omega))).trans (h.2.2 j hj)⟩
theorem RXS.T {F G : FW} {T : St} (h : RXS F G) (t : XT F T) : XT G T := t.of fun k hk => h.2.2 k (Or.inl hk)
theorem RXS.G {F G : FW} (h : RXS F G) (g : GW F) : GW G := g.fx h.1
theorem RT.rxs {F G K : FW} (h : RT F G) (x : RXS G K) : RT F K :=
  ⟨h.1.tr (x.1.wd fun q (c : q = 69 ∨ q = 71) => c.elim Or.inl (fun e => Or.inr (Or.inl e))), fun k hk => (x.1.1 78 k (by decide)).trans (h.2.1 k hk), fun k hk => (x.2.2 k hk).trans (h.2.2.1 k hk), fun k h1 h2 h3 => (x.2.1 k h2 h3).trans (h.2.2.2 k h1 h2 h3)⟩
theorem RKX.rxs {F G K : FW} (h : RKX F G) (x : RXS G K) : RKX F K := ⟨h.1.tr (x.1.wd fun q (c : q = 69 ∨ q = 71) => c.elim Or.inl (fun e => Or.inr (Or.inl e))), fun k h1 h2 h3 h4 => (x.2.1 k h2 h4).trans (h.2.1 k h1 h2 h3 h4), fun k hk => (x.2.2 k hk).trans (h.2.2 k hk)⟩
theorem XS.sd {F : FW} {m a k : Nat} {S : Sh} {v : Int32} (h : XS F m S) (hm : m ≤ 8) (ha : a ≠ 71) : XS (fp F a k v) m S := h.of hm fun j _ _ => fp_ne (Or.inl (fun e => ha e.symm))
theorem XT.sd {F : FW} {a k : Nat} {T : St} {v : Int32} (h : XT F T) (ha : a ≠ 71) : XT (fp F a k v) T := h.of fun j _ => fp_ne (Or.inl (fun e => ha e.symm))
theorem XS.do0 {F : FW} {m k : Nat} {S : Sh} {n : Int32} (h : XS F m S) (hm : m ≤ 8) (hk : k < 12) : XS (fp (fp F 71 (124 + k) (h_s S k - n)) 71 (136 + k) (h_h S k + n)) m (m_do 0 S k n) := by
  have e := h.two (v := h_s S k - n) (w := h_h S k + n) hm hk
  rw [← an_s] at e ⊢
  exact e
theorem XS.do1 {F : FW} {m k : Nat} {S : Sh} {n : Int32} (h : XS F m S) (hm : m ≤ 8) (hk : k < 12) : XS (fp (fp F 71 (124 + k) (h_s S k - -n)) 71 (136 + k) (h_h S k + -n)) m (m_do 1 S k n) := by
  have e := h.two (v := h_s S k + n) (w := h_h S k - n) hm hk
  rw [show h_s S k - -n = h_s S k + n from by rw [Int32.sub_eq_add_neg, Int32.neg_neg], an_s]
  exact e
theorem XS.do2 {F : FW} {m k : Nat} {S : Sh} {n : Int32} (h : XS F m S) (hm : m ≤ 8) (hk : k < 12) : XS (fp F 71 (124 + k) (h_s S k - n)) m (m_do 2 S k n) := by
  have e := h.one (v := h_s S k - n) hm hk
  rw [← an_s] at e ⊢
  exact e
theorem try_y {d : Nat} {S : Sh} {k : Nat} {n : Int32} (h : m_why d S k n = 0) : m_try d S k n = m_do d S k n := if_pos h
theorem try_n {d : Nat} {S : Sh} {k : Nat} {n : Int32} (h : ¬ m_why d S k n = 0) : m_try d S k n = S := if_neg h
theorem dDs_y {T : St} {S : Sh} {x : Int32} {d : Nat} (h : dr (m_nx x) 6 = d) (hd : d < 3) : m_dDs T S x = m_try d S (2 * dr (m_nx (m_nx x)) (t_g T) + dr (m_nx (m_nx (m_nx x))) 2) (Int32.ofNat (dr (m_nx (m_nx (m_nx (m_nx x)))) 20 + 1)) := by
  unfold m_dDs
  rw [h]
  exact if_pos hd
theorem dDx_y {T : St} {S : Sh} {x : Int32} (hd : dr (m_nx x) 6 < 3) : m_dDx T S x = m_nx (m_nx (m_nx (m_nx x))) := if_pos hd
theorem dDs_n {T : St} {S : Sh} {x : Int32} (hd : ¬ dr (m_nx x) 6 < 3) : m_dDs T S x = S := if_neg hd
theorem dDx_n {T : St} {S : Sh} {x : Int32} (hd : ¬ dr (m_nx x) 6 < 3) : m_dDx T S x = m_nx x := if_neg hd
theorem why_le {d : Nat} {S : Sh} {k : Nat} {n : Int32} (hd : d < 4) : m_why d S k n ≤ 0 ↔ m_why d S k n = 0 := by
  have h : m_why d S k n = 0 ∨ m_why d S k n = 1 ∨ m_why d S k n = 2 := by
    unfold m_why
    split
    · split
      · exact Or.inr (Or.inl rfl)
      · split
        · exact Or.inr (Or.inr rfl)
        · exact Or.inl rfl
    · split
      · exact Or.inl rfl
      · exact Or.inr (Or.inl rfl)
    · split
      · exact Or.inr (Or.inl rfl)
      · exact Or.inl rfl
  rcases h with e | e | e <;> rw [e] <;> decide
/-! ===== what is kept of the past: the reference ===== -/
/-- row j of the array at 77 is Shores H j, laid as the array at 71 lays them from 120 on -/
def HSX (F : FW) (m n : Nat) (H : Nat → Sh) : Prop := F.1 69 25 = Int32.ofNat n ∧ n ≤ 8 ∧ ∀ j, j < n → XS (fcp F 77 71 (133 * j) 120 133) m (H j)
theorem HSX.get {F G : FW} {m n j : Nat} {H : Nat → Sh} (h : HSX F m n H) (hm : m ≤ 8) (hj : j < n) (x : ∀ k, 120 ≤ k → k < 253 → G.1 71 k = F.1 77 (133 * j + (k - 120))) : XS G m (H j) :=
  (h.2.2 j hj).of hm fun k h1 h2 => (x k h1 h2).trans (if_pos (show (71 = 71) ∧ 120 ≤ k ∧ k < 120 + 133 from ⟨rfl, h1, by omega⟩)).symm
theorem HSX.put {F : FW} {m j : Nat} {S : Sh} {K : FW} (hm : m ≤ 8) (hS : XS K m S) (x : ∀ i, i < 133 → F.1 77 (133 * j + i) = K.1 71 (120 + i)) : XS (fcp F 77 71 (133 * j) 120 133) m S :=
  hS.of hm fun k h1 h2 => (if_pos (show (71 = 71) ∧ 120 ≤ k ∧ k < 120 + 133 from ⟨rfl, h1, by omega⟩)).trans ((x (k - 120) (by omega)).trans (congrArg (K.1 71) (by omega)))
theorem HSX.row {F G : FW} {m i j : Nat} {S : Sh} (hm : m ≤ 8) (h : XS (fcp F 77 71 (133 * i) 120 133) m S) (x : ∀ k, k < 133 → G.1 77 (133 * j + k) = F.1 77 (133 * i + k)) : XS (fcp G 77 71 (133 * j) 120 133) m S :=
  h.of hm fun k h1 h2 => (if_pos (show (71 = 71) ∧ 120 ≤ k ∧ k < 120 + 133 from ⟨rfl, h1, by omega⟩)).trans ((x (k - 120) (by omega)).trans (if_pos (show (71 = 71) ∧ 120 ≤ k ∧ k < 120 + 133 from ⟨rfl, h1, by omega⟩)).symm)
theorem HSX.same {F G : FW} {m n : Nat} {H : Nat → Sh} (h : HSX F m n H) (hm : m ≤ 8) (e : G.1 69 25 = F.1 69 25) (x : ∀ k, G.1 77 k = F.1 77 k) : HSX G m n H :=
  ⟨e.trans h.1, h.2.1, fun j hj => HSX.row hm (h.2.2 j hj) fun k _ => x _⟩
def HKX (b : Bool) (F : FW) (m n : Nat) (H : Nat → Sh) (S : Sh) : Prop := if b then HSX F m (m_kn n) (m_kH n H S) else HSX F m n H
theorem HKX.t {b : Bool} {F : FW} {m n : Nat} {H : Nat → Sh} {S : Sh} (h : HSX F m (m_kn n) (m_kH n H S)) (e : b = true) : HKX b F m n H S := by
  rw [e]
  exact h
theorem HKX.f {b : Bool} {F : FW} {m n : Nat} {H : Nat → Sh} {S : Sh} (h : HSX F m n H) (e : b = false) : HKX b F m n H S := by
  rw [e]
  exact h
theorem m_fst_59 {T : St} {S : Sh} {r : Nat} (hr : 60 = r) (h : m_fst (pRest T S) r = none) : m_fst (pRest T S) 59 = none := by
  subst hr
  exact (m_fst_l h).1
theorem rounds_z {T : St} {S : Sh} {r : Nat} (h : m_fst (pRest T S) r = none) (c : pRest T S r = true) (hr : r < 60) : m_rounds T S = r + 1 := by
  by_cases e : r < 59
  · exact rounds_r h c e
  · have e2 : r = 59 := by omega
    subst e2
    exact rounds_60 h
theorem dXs_y {T : St} {S : Sh} {x : Int32} (h1 : dr (m_nx x) 90 = 0) (h2 : 0 < t_m T) : m_dXs T S x = m_try 3 S (dr (m_nx (m_nx x)) (t_m T)) 0 := if_pos ⟨h1, h2⟩
theorem dXx_y {T : St} {S : Sh} {x : Int32} (h1 : dr (m_nx x) 90 = 0) (h2 : 0 < t_m T) : m_dXx T S x = m_nx (m_nx x) := if_pos ⟨h1, h2⟩
theorem dXs_n {T : St} {S : Sh} {x : Int32} (h : ¬ (dr (m_nx x) 90 = 0 ∧ 0 < t_m T)) : m_dXs T S x = S := if_neg h
theorem dXx_n {T : St} {S : Sh} {x : Int32} (h : ¬ (dr (m_nx x) 90 = 0 ∧ 0 < t_m T)) : m_dXx T S x = m_nx x := if_neg h
theorem RDR.t78 {F F1 G : FW} (r : RDR F F1) (x : FX (fun q => q = 78) F1 G) : RDR F G := ⟨r.1.tr (x.wd fun q (c : q = 78) => Or.inr (Or.inr (Or.inl c))), fun k => (x.1 71 k (by decide)).trans (r.2.1 k), fun k h1 h2 h3 => (x.1 69 k (by decide)).trans (r.2.2 k h1 h2 h3)⟩
theorem XS.die3b {F : FW} {m k : Nat} {S : Sh} {b : Int32} (h : XS F m S) (hm : m ≤ 8) (hk : k < m) (hb : F.1 71 180 = b) : XS (fp F 71 180 (b ||| 1 <<< (Int32.ofNat k &&& 31))) m (m_try 3 S k 0) := by
  subst hb
  exact h.die3 hm hk
theorem whyh_1 {d : Nat} {S : Sh} {k : Nat} {n : Int32} (hd : d = 0 ∨ d = 2) (h : ¬ m_why d S k n ≤ 0) : m_why d S k n = 1 := by
  have e : m_why d S k n = if h_s S k < n then 1 else 0 := by
    rcases hd with rfl | rfl <;> rfl
  rw [e] at h ⊢
  by_cases c : h_s S k < n
  · exact if_pos c
  · rw [if_neg c] at h
    exact absurd (show (0 : Int32) ≤ 0 by decide) h
theorem RKX.kp {F F1 G : FW} (r : RKX F F1) (x : FX (fun q => q = 77 ∨ q = 69) F1 G) (a : ∀ j, G.1 71 j = F1.1 71 j) (b : ∀ j, j ≠ 25 → G.1 69 j = F1.1 69 j) : RKX F G :=
  ⟨r.1.tr (x.wd fun q (c : q = 77 ∨ q = 69) => c.elim (fun e => Or.inr (Or.inr (Or.inl e))) Or.inl), fun k h1 h2 h3 h4 => (b k h3).trans (r.2.1 k h1 h2 h3 h4), fun k hk => (a k).trans (r.2.2 k hk)⟩
theorem days_ge (T : St) (S : Sh) : ∀ k, h_d S ≤ h_d (m_days T S k)
  | 0 => Nat.le_refl _
  | k + 1 => by
    have ih := days_ge T S k
    by_cases c : h_d (m_days T S k) < 400
    · rw [m_days_s c]
      show h_d S ≤ h_d (m_days T S k) + 1
      omega
    · rw [show m_days T S (k + 1) = m_days T S k from if_neg c]
      exact ih
theorem days_400 {T : St} {S : Sh} {k : Nat} (h : ¬ h_d S < 400) : m_days T S k = S := m_days_e (k := 0) (Nat.zero_le _) h
theorem h_d_1 {T : St} {S : Sh} {x : Int32} : h_d (m_d1 T S x) = h_d S + 1 := by
  have e : ∀ B, h_d (m_day T B) = h_d B + 1 := fun _ => rfl
  unfold m_d1
  rw [e, h_d_drawX, h_d_drawD]
theorem drawn_ge (T : St) (S : Sh) (x : Int32) : ∀ k, h_d S ≤ h_d (m_drawn T (S, x) k).1
  | 0 => Nat.le_refl _
  | k + 1 => by
    have ih := drawn_ge T S x k
    by_cases c : h_d (m_drawn T (S, x) k).1 < 400
    · rw [drawn_1 c, h_d_1]
      exact Nat.le_succ_of_le ih
    · have e : m_drawn T (S, x) (k + 1) = m_drawn T (S, x) k := if_neg c
      rw [e]
      exact ih
end
-- 63.b68a.lean.txt
section
set_option maxRecDepth 100000 in
set_option maxHeartbeats 4000000 in
theorem q_loads {F : FW} {T : St} {S : Sh} (hT : XT F T) (hS : XS F (t_m T) S) (hG : GW F) (hTB : TBB T) (hI : INV T S) (x : Int32) : Pm Z_X11_loads [.ref 69, .int x] F (fun r F' => r = some (.int (a_loads T S x)) ∧ RDR F F') := by
  refine Pm.of fun N => ?_
  obtain ⟨Q, hQ⟩ : ∃ Q : Option Value → FW → Prop, Q = (fun r F' => r = some (.int (a_loads T S x)) ∧ RDR F F') := ⟨_, rfl⟩
  rw [← hQ]
  have b3 := hT.mb
  have b4 := hT.nb
  have b5 := hT.gb
  have b6 := m_from_lt S
  have b7 := hS.db
  have hSB := hI.sb
  refine (show Pv (ab_T (L_X11_loads Z_X11_isIn Z_X11_tries Z_X11_goesOn Z_X11_back)) N 0 [some (.ref 69), some (.int x), none, none] [] F Q from ?_)
  refine Pv.aload rfl rfl ?_
  refine Pv.lit rfl ?_
  refine Pv.putI rfl rfl ?_
  refine Pv.iload rfl rfl ?_
  refine Pv.lit rfl ?_
  refine Pv.lit rfl ?_
  refine Pv.callI (as := [.int x, .int 1, .int 60]) (rest := []) (z := b2i (decide (1 ≤ x) && decide (x ≤ 60))) rfl rfl rfl (q_isIn x 1 60) ?_
  refine Pv.if0 rfl (fun c1 => ?_) (fun c1 => ?_)
  · skip
    replace c1 : decide (b2i (decide (1 ≤ x) && decide (x ≤ 60)) = 0) = false := by simpa using c1
    replace c1 := of_decide_eq_false c1
    replace c1 := b2n.mp c1
    obtain ⟨n, hn, hna, hnb, rfl⟩ := ndr_t ((ndr_in (a := 1) (b := 60) (by omega) (by omega)).symm.trans c1)
    refine Pv.aload rfl rfl ?_
    refine Pv.callV (as := [.ref 69]) (rest := []) rfl rfl rfl (g_tries (hG.fx (P := fun _ => True) (((FX.rf (P := fun _ => True))).fp trivial))) ?_
    rintro _ G2 ⟨rfl, x3, y4⟩
    have rt5 := RT.of ((RDR.rf).fp (Or.inl rfl)) x3 y4
    have hs6 := RT.ofS ((RDR.rf).fp (Or.inl rfl)) x3 b3 hS
    have hx7 := RT.T rt5 hT
    have hx8 := RT.G rt5 hG
    refine (show Pv _ _ 21 [some (.ref 69), some (.int (Int32.ofNat n)), none, none] [] G2 Q from ?_)
    refine Pv.aload rfl rfl ?_
    refine Pv.getR (v := .ref 71) rfl rfl (GW.at (a := 69) (k := 6) (b := 71) hx8 (by decide)) ?_
    refine Pv.lit rfl ?_
    refine Pv.ald (z := h_r S) rfl (hs6.r) ?_
    refine Pv.istore (lo' := [some (.ref 69), some (.int (Int32.ofNat n)), some (.int (h_r S)), none]) rfl rfl ?_
    refine Pv.aload rfl rfl ?_
    refine Pv.iload rfl rfl ?_
    refine Pv.callV (as := [.ref 69, .int (Int32.ofNat n)]) (rest := []) rfl rfl rfl (g_goesOn (n := n) hx7 hs6 hx8 hTB (INV.sb hI) (by omega)) ?_
    rintro _ G9 ⟨rfl, x10, hs11⟩
    have rt12 := RT.rx rt5 x10
    have hx13 := RT.T rt12 hT
    have hx14 := RT.G rt12 hG
    have bD15 := XS.db hs11
    refine (show Pv _ _ 34 [some (.ref 69), some (.int (Int32.ofNat n)), some (.int (h_r S)), none] [.int (Int32.ofNat (h_d (m_days T S n) - h_d S))] G9 Q from ?_)
    refine Pv.pop rfl ?_
    refine Pv.aload rfl rfl ?_
    refine Pv.getR (v := .ref 71) rfl rfl (GW.at (a := 69) (k := 6) (b := 71) hx14 (by decide)) ?_
    refine Pv.lit rfl ?_
    refine Pv.ald (z := h_r (m_days T S n)) rfl (hs11.r) ?_
    refine Pv.iload rfl rfl ?_
    refine Pv.bin (z := (h_r (m_days T S n)) - (h_r S)) rfl (rfl) ?_
    refine Pv.istore (lo' := [some (.ref 69), some (.int (Int32.ofNat n)), some (.int (h_r S)), some (.int ((h_r (m_days T S n)) - (h_r S)))]) rfl rfl ?_
    refine Pv.aload rfl rfl ?_
    refine Pv.callV (as := [.ref 69]) (rest := []) rfl rfl rfl (g_back hx14) ?_
    rintro _ G16 ⟨rfl, x17, y18, z19⟩
    have rd20 := RT.bk rt12 x17 y18 z19
    refine (show Pv _ _ 49 [some (.ref 69), some (.int (Int32.ofNat n)), some (.int (h_r S)), some (.int ((h_r (m_days T S n)) - (h_r S)))] [] G16 Q from ?_)
    refine Pv.iload rfl rfl ?_
    exact Pv.ret rfl (by rw [hQ]; exact ⟨by unfold a_loads; rw [hn], rd20⟩)
  · skip
    replace c1 : decide (b2i (decide (1 ≤ x) && decide (x ≤ 60)) = 0) = true := by simpa using c1
    replace c1 := of_decide_eq_true c1
    replace c1 := b2z.mp c1
    refine Pv.lit rfl ?_
    exact Pv.ret rfl (by rw [hQ]; exact ⟨by unfold a_loads; rw [ndr_f ((ndr_in (a := 1) (b := 60) (by omega) (by omega)).symm.trans c1)], (RDR.rf).fp (Or.inl rfl)⟩)
set_option maxRecDepth 100000 in
set_option maxHeartbeats 4000000 in
theorem q_hunger {F : FW} {T : St} {S : Sh} (hT : XT F T) (hS : XS F (t_m T) S) (hG : GW F) (hTB : TBB T) (hI : INV T S) (x y z : Int32) : Pm Z_X11_hunger [.ref 69, .int x, .int y, .int z] F (fun r F' => r = some (.int (a_hunger T S x y z)) ∧ RDR F F') := by
  refine Pm.of fun N => ?_
  obtain ⟨Q, hQ⟩ : ∃ Q : Option Value → FW → Prop, Q = (fun r F' => r = some (.int (a_hunger T S x y z)) ∧ RDR F F') := ⟨_, rfl⟩
  rw [← hQ]
  have b3 := hT.mb
  have b4 := hT.nb
  have b5 := hT.gb
  have b6 := m_from_lt S
  have b7 := hS.db
  have hSB := hI.sb
  refine (show Pv (ab_T (L_X11_hunger Z_X11_isPlace Z_X11_isIn Z_X11_tries Z_X11_cell Z_X11_goesOn Z_X11_back)) N 0 [some (.ref 69), some (.int x), some (.int y), some (.int z), none, none] [] F Q from ?_)
  refine Pv.aload rfl rfl ?_
  refine Pv.lit rfl ?_
  refine Pv.putI rfl rfl ?_
  refine Pv.aload rfl rfl ?_
  refine Pv.iload rfl rfl ?_
  refine Pv.iload rfl rfl ?_
  refine Pv.callVI (as := [.ref 69, .int x, .int y]) (rest := []) (z := b2i ((nd (t_g T) x).isSome && (nd 2 y).isSome)) rfl rfl rfl (q_isPlace (hT.fx (P := fun q => q = 69) (((FX.rf (P := fun q => q = 69))).fp rfl) (by decide)) (hG.fx (P := fun _ => True) (((FX.rf (P := fun _ => True))).fp trivial)) x y) ?_
  refine Pv.if0 rfl (fun c1 => ?_) (fun c1 => ?_)
  · skip
    replace c1 := of_decide_eq_true c1
    replace c1 := b2z.mp c1
    refine Pv.lit rfl ?_
    exact Pv.ret rfl (by rw [hQ]; exact ⟨by unfold a_hunger; rw [aGS_f c1], (RDR.rf).fp (Or.inl rfl)⟩)
  · skip
    replace c1 := of_decide_eq_false c1
    replace c1 := b2n.mp c1
    obtain ⟨g, s, hg, hs, hgl, hsl, rfl, rfl⟩ := gs_t c1
    refine Pv.iload rfl rfl ?_
    refine Pv.lit rfl ?_
    refine Pv.lit rfl ?_
    refine Pv.callI (as := [.int z, .int 1, .int 60]) (rest := []) (z := b2i (decide (1 ≤ z) && decide (z ≤ 60))) rfl rfl rfl (q_isIn z 1 60) ?_
    refine Pv.if0 rfl (fun c2 => ?_) (fun c2 => ?_)
    · skip
      replace c2 : decide (b2i (decide (1 ≤ z) && decide (z ≤ 60)) = 0) = false := by simpa using c2
      replace c2 := of_decide_eq_false c2
      replace c2 := b2n.mp c2
      obtain ⟨n, hn, hna, hnb, rfl⟩ := ndr_t ((ndr_in (a := 1) (b := 60) (by omega) (by omega)).symm.trans c2)
      refine Pv.aload rfl rfl ?_
      refine Pv.callV (as := [.ref 69]) (rest := []) rfl rfl rfl (g_tries (hG.fx (P := fun _ => True) (((FX.rf (P := fun _ => True))).fp trivial))) ?_
      rintro _ G3 ⟨rfl, x4, y5⟩
      have rt6 := RT.of ((RDR.rf).fp (Or.inl rfl)) x4 y5
      have hs7 := RT.ofS ((RDR.rf).fp (Or.inl rfl)) x4 b3 hS
      have hx8 := RT.T rt6 hT
      have hx9 := RT.G rt6 hG
      refine (show Pv _ _ 30 [some (.ref 69), some (.int (Int32.ofNat g)), some (.int (Int32.ofNat s)), some (.int (Int32.ofNat n)), none, none] [] G3 Q from ?_)
      refine Pv.aload rfl rfl ?_
      refine Pv.getR (v := .ref 71) rfl rfl (GW.at (a := 69) (k := 6) (b := 71) hx9 (by decide)) ?_
      refine Pv.lit rfl ?_
      refine Pv.iload rfl rfl ?_
      refine Pv.iload rfl rfl ?_
      refine Pv.callI (as := [.int (Int32.ofNat g), .int (Int32.ofNat s)]) (rest := [.int 148, .ref 71]) (z := Int32.ofNat (2 * g + s)) rfl rfl rfl (g_cell (g := g) (s := s)) ?_
      refine Pv.bin (z := Int32.ofNat (148 + (2 * g + s))) rfl (i_add 148 (2 * g + s)) ?_
      refine Pv.ald (z := h_u S (2 * g + s)) rfl (by rw [i_toNat (by omega)]; exact hs7.u _ (by omega)) ?_
      refine Pv.istore (lo' := [some (.ref 69), some (.int (Int32.ofNat g)), some (.int (Int32.ofNat s)), some (.int (Int32.ofNat n)), some (.int (h_u S (2 * g + s))), none]) rfl rfl ?_
      refine Pv.aload rfl rfl ?_
      refine Pv.iload rfl rfl ?_
      refine Pv.callV (as := [.ref 69, .int (Int32.ofNat n)]) (rest := []) rfl rfl rfl (g_goesOn (n := n) hx8 hs7 hx9 hTB (INV.sb hI) (by omega)) ?_
      rintro _ G10 ⟨rfl, x11, hs12⟩
      have rt13 := RT.rx rt6 x11
      have hx14 := RT.T rt13 hT
      have hx15 := RT.G rt13 hG
      have bD16 := XS.db hs12
      refine (show Pv _ _ 51 [some (.ref 69), some (.int (Int32.ofNat g)), some (.int (Int32.ofNat s)), some (.int (Int32.ofNat n)), some (.int (h_u S (2 * g + s))), none] [.int (Int32.ofNat (h_d (m_days T S n) - h_d S))] G10 Q from ?_)
      refine Pv.pop rfl ?_
      refine Pv.aload rfl rfl ?_
      refine Pv.getR (v := .ref 71) rfl rfl (GW.at (a := 69) (k := 6) (b := 71) hx15 (by decide)) ?_
      refine Pv.lit rfl ?_
      refine Pv.iload rfl rfl ?_
      refine Pv.iload rfl rfl ?_
      refine Pv.callI (as := [.int (Int32.ofNat g), .int (Int32.ofNat s)]) (rest := [.int 148, .ref 71]) (z := Int32.ofNat (2 * g + s)) rfl rfl rfl (g_cell (g := g) (s := s)) ?_
      refine Pv.bin (z := Int32.ofNat (148 + (2 * g + s))) rfl (i_add 148 (2 * g + s)) ?_
      refine Pv.ald (z := h_u (m_days T S n) (2 * g + s)) rfl (by rw [i_toNat (by omega)]; exact hs12.u _ (by omega)) ?_
      refine Pv.iload rfl rfl ?_
      refine Pv.bin (z := (h_u (m_days T S n) (2 * g + s)) - (h_u S (2 * g + s))) rfl (rfl) ?_
      refine Pv.istore (lo' := [some (.ref 69), some (.int (Int32.ofNat g)), some (.int (Int32.ofNat s)), some (.int (Int32.ofNat n)), some (.int (h_u S (2 * g + s))), some (.int ((h_u (m_days T S n) (2 * g + s)) - (h_u S (2 * g + s))))]) rfl rfl ?_
      refine Pv.aload rfl rfl ?_
      refine Pv.callV (as := [.ref 69]) (rest := []) rfl rfl rfl (g_back hx15) ?_
      rintro _ G17 ⟨rfl, x18, y19, z20⟩
      have rd21 := RT.bk rt13 x18 y19 z20
      refine (show Pv _ _ 75 [some (.ref 69), some (.int (Int32.ofNat g)), some (.int (Int32.ofNat s)), some (.int (Int32.ofNat n)), some (.int (h_u S (2 * g + s))), some (.int ((h_u (m_days T S n) (2 * g + s)) - (h_u S (2 * g + s))))] [] G17 Q from ?_)
      refine Pv.iload rfl rfl ?_
      exact Pv.ret rfl (by rw [hQ]; exact ⟨by unfold a_hunger; rw [aGS_t hg hs, hn], rd21⟩)
    · skip
      replace c2 : decide (b2i (decide (1 ≤ z) && decide (z ≤ 60)) = 0) = true := by simpa using c2
      replace c2 := of_decide_eq_true c2
      replace c2 := b2z.mp c2
      refine Pv.lit rfl ?_
      exact Pv.ret rfl (by rw [hQ]; exact ⟨by unfold a_hunger; rw [aGS_t hg hs, ndr_f ((ndr_in (a := 1) (b := 60) (by omega) (by omega)).symm.trans c2)], (RDR.rf).fp (Or.inl rfl)⟩)
set_option maxRecDepth 100000 in
set_option maxHeartbeats 4000000 in
theorem q_crosses {F : FW} {T : St} {S : Sh} (hT : XT F T) (hS : XS F (t_m T) S) (hG : GW F) (hTB : TBB T) (hI : INV T S) (x : Int32) : Pm Z_X11_crosses [.ref 69, .int x] F (fun r F' => r = some (.int (a_crosses T S x)) ∧ RDR F F') := by
  refine Pm.of fun N => ?_
  obtain ⟨Q, hQ⟩ : ∃ Q : Option Value → FW → Prop, Q = (fun r F' => r = some (.int (a_crosses T S x)) ∧ RDR F F') := ⟨_, rfl⟩
  rw [← hQ]
  have b3 := hT.mb
  have b4 := hT.nb
  have b5 := hT.gb
  have b6 := m_from_lt S
  have b7 := hS.db
  have hSB := hI.sb
  refine (show Pv (ab_T (L_X11_crosses Z_X11_isMan Z_X11_isDead Z_X11_tries Z_X11_goesOn Z_X11_back)) N 0 [some (.ref 69), some (.int x), none, none, none] [] F Q from ?_)
  refine Pv.aload rfl rfl ?_
  refine Pv.lit rfl ?_
  refine Pv.putI rfl rfl ?_
  refine Pv.aload rfl rfl ?_
  refine Pv.iload rfl rfl ?_
  refine Pv.callVI (as := [.ref 69, .int x]) (rest := []) (z := b2i (nd (t_m T) x).isSome) rfl rfl rfl (q_isMan (hT.fx (P := fun q => q = 69) (((FX.rf (P := fun q => q = 69))).fp rfl) (by decide)) (hG.fx (P := fun _ => True) (((FX.rf (P := fun _ => True))).fp trivial)) x) ?_
  refine Pv.if0 rfl (fun c1 => ?_) (fun c1 => ?_)
  · skip
    replace c1 := of_decide_eq_true c1
    replace c1 := b2z.mp c1
    refine Pv.lit rfl ?_
    exact Pv.ret rfl (by rw [hQ]; exact ⟨by unfold a_crosses; rw [nd_f c1], (RDR.rf).fp (Or.inl rfl)⟩)
  · skip
    replace c1 := of_decide_eq_false c1
    replace c1 := b2n.mp c1
    obtain ⟨m, hm, hml, rfl⟩ := nd_t c1
    refine Pv.aload rfl rfl ?_
    refine Pv.iload rfl rfl ?_
    refine Pv.callVI (as := [.ref 69, .int (Int32.ofNat m)]) (rest := []) (z := b2i (!m_alive S m)) rfl rfl rfl (g_isDead (o := 0) (m := m) (hS.xd.fx (P := fun q => q = 69) (((FX.rf (P := fun q => q = 69))).fp rfl) (by decide)) (hG.fx (P := fun _ => True) (((FX.rf (P := fun _ => True))).fp trivial)) (by omega)) ?_
    refine Pv.if0 rfl (fun c2 => ?_) (fun c2 => ?_)
    · skip
      replace c2 := of_decide_eq_true c2
      replace c2 := b2z.mp c2
      have al : m_alive S m = true := by simpa using c2
      refine Pv.aload rfl rfl ?_
      refine Pv.callV (as := [.ref 69]) (rest := []) rfl rfl rfl (g_tries (hG.fx (P := fun _ => True) (((FX.rf (P := fun _ => True))).fp trivial))) ?_
      rintro _ G3 ⟨rfl, x4, y5⟩
      have rt6 := RT.of ((RDR.rf).fp (Or.inl rfl)) x4 y5
      have hs7 := RT.ofS ((RDR.rf).fp (Or.inl rfl)) x4 b3 hS
      have hx8 := RT.T rt6 hT
      have hx9 := RT.G rt6 hG
      refine (show Pv _ _ 27 [some (.ref 69), some (.int (Int32.ofNat m)), none, none, none] [] G3 Q from ?_)
      refine Pv.aload rfl rfl ?_
      refine Pv.getR (v := .ref 71) rfl rfl (GW.at (a := 69) (k := 6) (b := 71) hx9 (by decide)) ?_
      refine Pv.lit rfl ?_
      refine Pv.iload rfl rfl ?_
      refine Pv.bin (z := Int32.ofNat (181 + m)) rfl (i_add 181 m) ?_
      refine Pv.ald (z := h_t S m) rfl (by rw [i_toNat (by omega)]; exact hs7.t _ (by omega)) ?_
      refine Pv.istore (lo' := [some (.ref 69), some (.int (Int32.ofNat m)), some (.int (h_t S m)), none, none]) rfl rfl ?_
      refine Pv.lit rfl ?_
      refine Pv.istore (lo' := [some (.ref 69), some (.int (Int32.ofNat m)), some (.int (h_t S m)), some (.int (-1)), none]) rfl rfl ?_
      refine Pv.lit rfl ?_
      refine Pv.istore (lo' := [some (.ref 69), some (.int (Int32.ofNat m)), some (.int (h_t S m)), some (.int (-1)), some (.int 0)]) rfl rfl ?_
      refine Pv.lp (ι := Nat × Int32 × FW) (lof := fun ⟨k, w, G⟩ => [some (.ref 69), some (.int (Int32.ofNat m)), some (.int (h_t S m)), some (.int w), some (.int (Int32.ofNat k))]) (Ff := fun ⟨k, w, G⟩ => G) (P := fun ⟨k, w, G⟩ => k ≤ 100 ∧ RT F G ∧ XS G (t_m T) (m_days T S k) ∧ w = aDay T S (m_fst (pCross T S m) k)) ?_ (0, (-1), G3) (⟨Nat.zero_le _, rt6, hs7, rfl⟩)
      rintro N10 hN11 ⟨k, w, G⟩ hi12 ih13
      refine (show Pv _ _ 43 [some (.ref 69), some (.int (Int32.ofNat m)), some (.int (h_t S m)), some (.int w), some (.int (Int32.ofNat k))] [] G Q from ?_)
      obtain ⟨hk, rt, hxs, hw⟩ := hi12
      have hx14 := RT.T rt hT
      have hx15 := RT.G rt hG
      have bD16 := XS.db hxs
      refine Pv.iloadS rfl rfl ?_
      refine Pv.lit rfl ?_
      refine Pv.icmp rfl (fun c17 => ?_) (fun c17 => ?_)
      · skip
        replace c17 := (i_le (a := 100) (b := k) (by omega) (by omega)).mp (of_decide_eq_true c17)
        refine Pv.aload rfl rfl ?_
        refine Pv.callV (as := [.ref 69]) (rest := []) rfl rfl rfl (g_back hx15) ?_
        rintro _ G18 ⟨rfl, x19, y20, z21⟩
        have rd22 := RT.bk rt x19 y20 z21
        refine (show Pv _ _ 97 [some (.ref 69), some (.int (Int32.ofNat m)), some (.int (h_t S m)), some (.int w), some (.int (Int32.ofNat k))] [] G18 Q from ?_)
        refine Pv.iload rfl rfl ?_
        exact Pv.ret rfl (by rw [hQ]; exact ⟨by unfold a_crosses; rw [hm]; dsimp only; rw [if_pos al]; rw [hw, show k = 100 by omega], rd22⟩)
      · skip
        replace c17 := mt (i_le (a := 100) (b := k) (by omega) (by omega)).mpr (of_decide_eq_false c17)
        refine Pv.iload rfl rfl ?_
        refine Pv.if0 rfl (fun c23 => ?_) (fun c23 => ?_)
        · skip
          replace c23 := of_decide_eq_true c23
          refine Pv.aload rfl rfl ?_
          refine Pv.callV (as := [.ref 69]) (rest := []) rfl rfl rfl (g_back hx15) ?_
          rintro _ G24 ⟨rfl, x25, y26, z27⟩
          have rd28 := RT.bk rt x25 y26 z27
          refine (show Pv _ _ 97 [some (.ref 69), some (.int (Int32.ofNat m)), some (.int (h_t S m)), some (.int w), some (.int (Int32.ofNat k))] [] G24 Q from ?_)
          refine Pv.iload rfl rfl ?_
          exact Pv.ret rfl (by rw [hQ]; exact ⟨by unfold a_crosses; rw [hm]; dsimp only; rw [if_pos al]; rw [hw, aDay_s (k := k) (n := 100) (by omega) (by rw [← hw]; exact Int32.not_lt.mpr c23)], rd28⟩)
        · skip
          replace c23 := of_decide_eq_false c23
          have hb : m_fst (pCross T S m) k = none := aDay_n (fun j => (INV_days hTB hT.gb hI j).db) (by rw [← hw]; exact Int32.not_le.mp c23)
          have g1 := hd_1 T (m_days T S k)
          refine Pv.aload rfl rfl ?_
          refine Pv.lit rfl ?_
          refine Pv.callV (as := [.ref 69, .int 1]) (rest := []) rfl rfl rfl (g_goesOn (n := 1) hx14 hxs hx15 hTB (INV.sb (INV_days hTB hT.gb hI k)) (by omega)) ?_
          rintro _ G29 ⟨rfl, x30, hs31⟩
          have rt32 := RT.rx rt x30
          have hx33 := RT.T rt32 hT
          have hx34 := RT.G rt32 hG
          have bD35 := XS.db hs31
          refine (show Pv _ _ 59 [some (.ref 69), some (.int (Int32.ofNat m)), some (.int (h_t S m)), some (.int w), some (.int (Int32.ofNat k))] [.int (Int32.ofNat (h_d (m_days T (m_days T S k) 1) - h_d (m_days T S k)))] G29 Q from ?_)
          refine Pv.lit rfl ?_
          refine Pv.icmp rfl (fun c36 => ?_) (fun c36 => ?_)
          · skip
            replace c36 : decide (Int32.ofNat (h_d (m_days T (m_days T S k) 1) - h_d (m_days T S k)) = 1) = false := by simpa using c36
            replace c36 := mt (i_eq (a := h_d (m_days T (m_days T S k) 1) - h_d (m_days T S k)) (b := 1) (by omega) (by omega)).mpr (of_decide_eq_false c36)
            refine Pv.aload rfl rfl ?_
            refine Pv.callV (as := [.ref 69]) (rest := []) rfl rfl rfl (g_back hx34) ?_
            rintro _ G37 ⟨rfl, x38, y39, z40⟩
            have rd41 := RT.bk rt32 x38 y39 z40
            refine (show Pv _ _ 97 [some (.ref 69), some (.int (Int32.ofNat m)), some (.int (h_t S m)), some (.int w), some (.int (Int32.ofNat k))] [] G37 Q from ?_)
            refine Pv.iload rfl rfl ?_
            exact Pv.ret rfl (by rw [hQ]; exact ⟨by unfold a_crosses; rw [hm]; dsimp only; rw [if_pos al]; rw [hw, hb, m_fst_z hb (by omega) (fun i hi => by unfold pCross; rw [decide_eq_false (by rw [m_days_400 (by omega) hi]; omega)]; rfl)], rd41⟩)
          · skip
            replace c36 : decide (Int32.ofNat (h_d (m_days T (m_days T S k) 1) - h_d (m_days T S k)) = 1) = true := by simpa using c36
            replace c36 := (i_eq (a := h_d (m_days T (m_days T S k) 1) - h_d (m_days T S k)) (b := 1) (by omega) (by omega)).mp (of_decide_eq_true c36)
            refine Pv.aload rfl rfl ?_
            refine Pv.getR (v := .ref 71) rfl rfl (GW.at (a := 69) (k := 6) (b := 71) hx34 (by decide)) ?_
            refine Pv.lit rfl ?_
            refine Pv.iload rfl rfl ?_
            refine Pv.bin (z := Int32.ofNat (181 + m)) rfl (i_add 181 m) ?_
            refine Pv.ald (z := h_t (m_days T (m_days T S k) 1) m) rfl (by rw [i_toNat (by omega)]; exact hs31.t _ (by omega)) ?_
            refine Pv.iload rfl rfl ?_
            refine Pv.icmp rfl (fun c42 => ?_) (fun c42 => ?_)
            · skip
              replace c42 := of_decide_eq_true c42
              refine Pv.iinc (y := Int32.ofNat (k + 1)) (lo' := [some (.ref 69), some (.int (Int32.ofNat m)), some (.int (h_t S m)), some (.int w), some (.int (Int32.ofNat (k + 1)))]) rfl rfl (i_add k 1) rfl ?_
              refine Pv.goto rfl ?_
              exact ih13 (k + 1, w, G29) (⟨by omega, rt32, (show XS G29 (t_m T) (m_days T S (k + 1)) from hs31), by rw [hw, hb, m_fst_n hb (by rw [← Bool.not_eq_true]; exact fun q => absurd ((cross_iff (k := k) hml hI hb (by omega)).mpr q) (Int32.not_lt.mpr c42))]⟩)
            · skip
              replace c42 := of_decide_eq_false c42
              refine Pv.aload rfl rfl ?_
              refine Pv.getR (v := .ref 71) rfl rfl (GW.at (a := 69) (k := 6) (b := 71) hx34 (by decide)) ?_
              refine Pv.lit rfl ?_
              refine Pv.ald (z := Int32.ofNat (h_d (m_days T (m_days T S k) 1))) rfl (hs31.d) ?_
              refine Pv.lit rfl ?_
              refine Pv.bin (z := Int32.ofNat (h_d (m_days T S k))) rfl ((i_subN (a := h_d (m_days T (m_days T S k) 1)) (b := 1) (by omega)).trans (congrArg Int32.ofNat (by omega))) ?_
              refine Pv.istore (lo' := [some (.ref 69), some (.int (Int32.ofNat m)), some (.int (h_t S m)), some (.int (Int32.ofNat (h_d (m_days T S k)))), some (.int (Int32.ofNat k))]) rfl rfl ?_
              refine Pv.iinc (y := Int32.ofNat (k + 1)) (lo' := [some (.ref 69), some (.int (Int32.ofNat m)), some (.int (h_t S m)), some (.int (Int32.ofNat (h_d (m_days T S k)))), some (.int (Int32.ofNat (k + 1)))]) rfl rfl (i_add k 1) rfl ?_
              refine Pv.goto rfl ?_
              exact ih13 (k + 1, Int32.ofNat (h_d (m_days T S k)), G29) (⟨by omega, rt32, (show XS G29 (t_m T) (m_days T S (k + 1)) from hs31), by rw [m_fst_e hb ((cross_iff (k := k) hml hI hb (by omega)).mp (Int32.not_le.mp c42)) (Nat.lt_succ_self k)]; rfl⟩)
    · skip
      replace c2 := of_decide_eq_false c2
      replace c2 := b2n.mp c2
      refine Pv.lit rfl ?_
      exact Pv.ret rfl (by rw [hQ]; exact ⟨by unfold a_crosses; rw [hm]; dsimp only; rw [if_neg (by have q := c2; simp at q; rw [q]; decide)], (RDR.rf).fp (Or.inl rfl)⟩)
set_option maxRecDepth 100000 in
set_option maxHeartbeats 4000000 in
theorem q_comes {F : FW} {T : St} {S : Sh} (hT : XT F T) (hS : XS F (t_m T) S) (hG : GW F) (hTB : TBB T) (hI : INV T S) (x y : Int32) : Pm Z_X11_comes [.ref 69, .int x, .int y] F (fun r F' => r = some (.int (a_comes T S x y)) ∧ RDR F F') := by
  refine Pm.of fun N => ?_
  obtain ⟨Q, hQ⟩ : ∃ Q : Option Value → FW → Prop, Q = (fun r F' => r = some (.int (a_comes T S x y)) ∧ RDR F F') := ⟨_, rfl⟩
  rw [← hQ]
  have b3 := hT.mb
  have b4 := hT.nb
  have b5 := hT.gb
  have b6 := m_from_lt S
  have b7 := hS.db
  have hSB := hI.sb
  refine (show Pv (ab_T (L_X11_comes Z_X11_isPlace Z_X11_tries Z_X11_cell Z_X11_goesOn Z_X11_back)) N 0 [some (.ref 69), some (.int x), some (.int y), none, none, none] [] F Q from ?_)
  refine Pv.aload rfl rfl ?_
  refine Pv.lit rfl ?_
  refine Pv.putI rfl rfl ?_
  refine Pv.aload rfl rfl ?_
  refine Pv.iload rfl rfl ?_
  refine Pv.iload rfl rfl ?_
  refine Pv.callVI (as := [.ref 69, .int x, .int y]) (rest := []) (z := b2i ((nd (t_g T) x).isSome && (nd 2 y).isSome)) rfl rfl rfl (q_isPlace (hT.fx (P := fun q => q = 69) (((FX.rf (P := fun q => q = 69))).fp rfl) (by decide)) (hG.fx (P := fun _ => True) (((FX.rf (P := fun _ => True))).fp trivial)) x y) ?_
  refine Pv.if0 rfl (fun c1 => ?_) (fun c1 => ?_)
  · skip
    replace c1 : decide (b2i ((nd (t_g T) x).isSome && (nd 2 y).isSome) = 0) = false := by simpa using c1
    replace c1 := of_decide_eq_false c1
    replace c1 := b2n.mp c1
    obtain ⟨g, s, hg, hs, hgl, hsl, rfl, rfl⟩ := gs_t c1
    refine Pv.aload rfl rfl ?_
    refine Pv.callV (as := [.ref 69]) (rest := []) rfl rfl rfl (g_tries (hG.fx (P := fun _ => True) (((FX.rf (P := fun _ => True))).fp trivial))) ?_
    rintro _ G2 ⟨rfl, x3, y4⟩
    have rt5 := RT.of ((RDR.rf).fp (Or.inl rfl)) x3 y4
    have hs6 := RT.ofS ((RDR.rf).fp (Or.inl rfl)) x3 b3 hS
    have hx7 := RT.T rt5 hT
    have hx8 := RT.G rt5 hG
    refine (show Pv _ _ 20 [some (.ref 69), some (.int (Int32.ofNat g)), some (.int (Int32.ofNat s)), none, none, none] [] G2 Q from ?_)
    refine Pv.aload rfl rfl ?_
    refine Pv.getR (v := .ref 71) rfl rfl (GW.at (a := 69) (k := 6) (b := 71) hx8 (by decide)) ?_
    refine Pv.lit rfl ?_
    refine Pv.iload rfl rfl ?_
    refine Pv.iload rfl rfl ?_
    refine Pv.callI (as := [.int (Int32.ofNat g), .int (Int32.ofNat s)]) (rest := [.int 160, .ref 71]) (z := Int32.ofNat (2 * g + s)) rfl rfl rfl (g_cell (g := g) (s := s)) ?_
    refine Pv.bin (z := Int32.ofNat (160 + (2 * g + s))) rfl (i_add 160 (2 * g + s)) ?_
    refine Pv.ald (z := h_c S (2 * g + s)) rfl (by rw [i_toNat (by omega)]; exact hs6.c _ (by omega)) ?_
    refine Pv.istore (lo' := [some (.ref 69), some (.int (Int32.ofNat g)), some (.int (Int32.ofNat s)), some (.int (h_c S (2 * g + s))), none, none]) rfl rfl ?_
    refine Pv.lit rfl ?_
    refine Pv.istore (lo' := [some (.ref 69), some (.int (Int32.ofNat g)), some (.int (Int32.ofNat s)), some (.int (h_c S (2 * g + s))), some (.int (-1)), none]) rfl rfl ?_
    refine Pv.lit rfl ?_
    refine Pv.istore (lo' := [some (.ref 69), some (.int (Int32.ofNat g)), some (.int (Int32.ofNat s)), some (.int (h_c S (2 * g + s))), some (.int (-1)), some (.int 0)]) rfl rfl ?_
    refine Pv.lp (ι := Nat × Int32 × FW) (lof := fun ⟨k, w, G⟩ => [some (.ref 69), some (.int (Int32.ofNat g)), some (.int (Int32.ofNat s)), some (.int (h_c S (2 * g + s))), some (.int w), some (.int (Int32.ofNat k))]) (Ff := fun ⟨k, w, G⟩ => G) (P := fun ⟨k, w, G⟩ => k ≤ 100 ∧ RT F G ∧ XS G (t_m T) (m_days T S k) ∧ w = aDay T S (m_fst (pComes T S g s) k)) ?_ (0, (-1), G2) (⟨Nat.zero_le _, rt5, hs6, rfl⟩)
    rintro N9 hN10 ⟨k, w, G⟩ hi11 ih12
    refine (show Pv _ _ 41 [some (.ref 69), some (.int (Int32.ofNat g)), some (.int (Int32.ofNat s)), some (.int (h_c S (2 * g + s))), some (.int w), some (.int (Int32.ofNat k))] [] G Q from ?_)
    obtain ⟨hk, rt, hxs, hw⟩ := hi11
    have hx13 := RT.T rt hT
    have hx14 := RT.G rt hG
    have bD15 := XS.db hxs
    refine Pv.iloadS rfl rfl ?_
    refine Pv.lit rfl ?_
    refine Pv.icmp rfl (fun c16 => ?_) (fun c16 => ?_)
    · skip
      replace c16 := (i_le (a := 100) (b := k) (by omega) (by omega)).mp (of_decide_eq_true c16)
      refine Pv.aload rfl rfl ?_
      refine Pv.callV (as := [.ref 69]) (rest := []) rfl rfl rfl (g_back hx14) ?_
      rintro _ G17 ⟨rfl, x18, y19, z20⟩
      have rd21 := RT.bk rt x18 y19 z20
      refine (show Pv _ _ 101 [some (.ref 69), some (.int (Int32.ofNat g)), some (.int (Int32.ofNat s)), some (.int (h_c S (2 * g + s))), some (.int w), some (.int (Int32.ofNat k))] [] G17 Q from ?_)
      refine Pv.iload rfl rfl ?_
      exact Pv.ret rfl (by rw [hQ]; exact ⟨by unfold a_comes; rw [aGS_t hg hs]; rw [hw, show k = 100 by omega], rd21⟩)
    · skip
      replace c16 := mt (i_le (a := 100) (b := k) (by omega) (by omega)).mpr (of_decide_eq_false c16)
      refine Pv.iload rfl rfl ?_
      refine Pv.if0 rfl (fun c22 => ?_) (fun c22 => ?_)
      · skip
        replace c22 := of_decide_eq_true c22
        refine Pv.aload rfl rfl ?_
        refine Pv.callV (as := [.ref 69]) (rest := []) rfl rfl rfl (g_back hx14) ?_
        rintro _ G23 ⟨rfl, x24, y25, z26⟩
        have rd27 := RT.bk rt x24 y25 z26
        refine (show Pv _ _ 101 [some (.ref 69), some (.int (Int32.ofNat g)), some (.int (Int32.ofNat s)), some (.int (h_c S (2 * g + s))), some (.int w), some (.int (Int32.ofNat k))] [] G23 Q from ?_)
        refine Pv.iload rfl rfl ?_
        exact Pv.ret rfl (by rw [hQ]; exact ⟨by unfold a_comes; rw [aGS_t hg hs]; rw [hw, aDay_s (k := k) (n := 100) (by omega) (by rw [← hw]; exact Int32.not_lt.mpr c22)], rd27⟩)
      · skip
        replace c22 := of_decide_eq_false c22
        have hb : m_fst (pComes T S g s) k = none := aDay_n (fun j => (INV_days hTB hT.gb hI j).db) (by rw [← hw]; exact Int32.not_le.mp c22)
        have g1 := hd_1 T (m_days T S k)
        refine Pv.aload rfl rfl ?_
        refine Pv.lit rfl ?_
        refine Pv.callV (as := [.ref 69, .int 1]) (rest := []) rfl rfl rfl (g_goesOn (n := 1) hx13 hxs hx14 hTB (INV.sb (INV_days hTB hT.gb hI k)) (by omega)) ?_
        rintro _ G28 ⟨rfl, x29, hs30⟩
        have rt31 := RT.rx rt x29
        have hx32 := RT.T rt31 hT
        have hx33 := RT.G rt31 hG
        have bD34 := XS.db hs30
        refine (show Pv _ _ 58 [some (.ref 69), some (.int (Int32.ofNat g)), some (.int (Int32.ofNat s)), some (.int (h_c S (2 * g + s))), some (.int w), some (.int (Int32.ofNat k))] [.int (Int32.ofNat (h_d (m_days T (m_days T S k) 1) - h_d (m_days T S k)))] G28 Q from ?_)
        refine Pv.lit rfl ?_
        refine Pv.icmp rfl (fun c35 => ?_) (fun c35 => ?_)
        · skip
          replace c35 : decide (Int32.ofNat (h_d (m_days T (m_days T S k) 1) - h_d (m_days T S k)) = 1) = false := by simpa using c35
          replace c35 := mt (i_eq (a := h_d (m_days T (m_days T S k) 1) - h_d (m_days T S k)) (b := 1) (by omega) (by omega)).mpr (of_decide_eq_false c35)
          refine Pv.aload rfl rfl ?_
          refine Pv.callV (as := [.ref 69]) (rest := []) rfl rfl rfl (g_back hx33) ?_
          rintro _ G36 ⟨rfl, x37, y38, z39⟩
          have rd40 := RT.bk rt31 x37 y38 z39
          refine (show Pv _ _ 101 [some (.ref 69), some (.int (Int32.ofNat g)), some (.int (Int32.ofNat s)), some (.int (h_c S (2 * g + s))), some (.int w), some (.int (Int32.ofNat k))] [] G36 Q from ?_)
          refine Pv.iload rfl rfl ?_
          exact Pv.ret rfl (by rw [hQ]; exact ⟨by unfold a_comes; rw [aGS_t hg hs]; rw [hw, hb, m_fst_z hb (by omega) (fun i hi => by unfold pComes; rw [decide_eq_false (by rw [m_days_400 (by omega) hi]; omega)]; rfl)], rd40⟩)
        · skip
          replace c35 : decide (Int32.ofNat (h_d (m_days T (m_days T S k) 1) - h_d (m_days T S k)) = 1) = true := by simpa using c35
          replace c35 := (i_eq (a := h_d (m_days T (m_days T S k) 1) - h_d (m_days T S k)) (b := 1) (by omega) (by omega)).mp (of_decide_eq_true c35)
          refine Pv.aload rfl rfl ?_
          refine Pv.getR (v := .ref 71) rfl rfl (GW.at (a := 69) (k := 6) (b := 71) hx33 (by decide)) ?_
          refine Pv.lit rfl ?_
          refine Pv.iload rfl rfl ?_
          refine Pv.iload rfl rfl ?_
          refine Pv.callI (as := [.int (Int32.ofNat g), .int (Int32.ofNat s)]) (rest := [.int 160, .ref 71]) (z := Int32.ofNat (2 * g + s)) rfl rfl rfl (g_cell (g := g) (s := s)) ?_
          refine Pv.bin (z := Int32.ofNat (160 + (2 * g + s))) rfl (i_add 160 (2 * g + s)) ?_
          refine Pv.ald (z := h_c (m_days T (m_days T S k) 1) (2 * g + s)) rfl (by rw [i_toNat (by omega)]; exact hs30.c _ (by omega)) ?_
          refine Pv.iload rfl rfl ?_
          refine Pv.icmp rfl (fun c41 => ?_) (fun c41 => ?_)
          · skip
            replace c41 := of_decide_eq_true c41
            refine Pv.iinc (y := Int32.ofNat (k + 1)) (lo' := [some (.ref 69), some (.int (Int32.ofNat g)), some (.int (Int32.ofNat s)), some (.int (h_c S (2 * g + s))), some (.int w), some (.int (Int32.ofNat (k + 1)))]) rfl rfl (i_add k 1) rfl ?_
            refine Pv.goto rfl ?_
            exact ih12 (k + 1, w, G28) (⟨by omega, rt31, (show XS G28 (t_m T) (m_days T S (k + 1)) from hs30), by rw [hw, hb, m_fst_n hb (by rw [← Bool.not_eq_true]; exact fun q => absurd ((comes_iff (k := k) hTB hT.gb hI hgl hsl hb (by omega)).mpr q) (Int32.not_lt.mpr c41))]⟩)
          · skip
            replace c41 := of_decide_eq_false c41
            refine Pv.aload rfl rfl ?_
            refine Pv.getR (v := .ref 71) rfl rfl (GW.at (a := 69) (k := 6) (b := 71) hx33 (by decide)) ?_
            refine Pv.lit rfl ?_
            refine Pv.ald (z := Int32.ofNat (h_d (m_days T (m_days T S k) 1))) rfl (hs30.d) ?_
            refine Pv.lit rfl ?_
            refine Pv.bin (z := Int32.ofNat (h_d (m_days T S k))) rfl ((i_subN (a := h_d (m_days T (m_days T S k) 1)) (b := 1) (by omega)).trans (congrArg Int32.ofNat (by omega))) ?_
            refine Pv.istore (lo' := [some (.ref 69), some (.int (Int32.ofNat g)), some (.int (Int32.ofNat s)), some (.int (h_c S (2 * g + s))), some (.int (Int32.ofNat (h_d (m_days T S k)))), some (.int (Int32.ofNat k))]) rfl rfl ?_
            refine Pv.iinc (y := Int32.ofNat (k + 1)) (lo' := [some (.ref 69), some (.int (Int32.ofNat g)), some (.int (Int32.ofNat s)), some (.int (h_c S (2 * g + s))), some (.int (Int32.ofNat (h_d (m_days T S k)))), some (.int (Int32.ofNat (k + 1)))]) rfl rfl (i_add k 1) rfl ?_
            refine Pv.goto rfl ?_
            exact ih12 (k + 1, Int32.ofNat (h_d (m_days T S k)), G28) (⟨by omega, rt31, (show XS G28 (t_m T) (m_days T S (k + 1)) from hs30), by rw [m_fst_e hb ((comes_iff (k := k) hTB hT.gb hI hgl hsl hb (by omega)).mp (Int32.not_le.mp c41)) (Nat.lt_succ_self k)]; rfl⟩)
  · skip
    replace c1 : decide (b2i ((nd (t_g T) x).isSome && (nd 2 y).isSome) = 0) = true := by simpa using c1
    replace c1 := of_decide_eq_true c1
    replace c1 := b2z.mp c1
    refine Pv.lit rfl ?_
    exact Pv.ret rfl (by rw [hQ]; exact ⟨by unfold a_comes; rw [aGS_f c1], (RDR.rf).fp (Or.inl rfl)⟩)
set_option maxRecDepth 100000 in
set_option maxHeartbeats 4000000 in
theorem q_meet {F : FW} {T : St} {S : Sh} (hT : XT F T) (hS : XS F (t_m T) S) (hG : GW F) (hTB : TBB T) (hI : INV T S) (x y : Int32) : Pm Z_X11_meet [.ref 69, .int x, .int y] F (fun r F' => r = some (.int (a_meet T S x y)) ∧ RDR F F') := by
  refine Pm.of fun N => ?_
  obtain ⟨Q, hQ⟩ : ∃ Q : Option Value → FW → Prop, Q = (fun r F' => r = some (.int (a_meet T S x y)) ∧ RDR F F') := ⟨_, rfl⟩
  rw [← hQ]
  have b3 := hT.mb
  have b4 := hT.nb
  have b5 := hT.gb
  have b6 := m_from_lt S
  have b7 := hS.db
  have hSB := hI.sb
  refine (show Pv (ab_T (L_X11_meet Z_X11_isMan Z_X11_isDead Z_X11_tries Z_X11_areUnlike Z_X11_goesOn Z_X11_back)) N 0 [some (.ref 69), some (.int x), some (.int y), none, none] [] F Q from ?_)
  refine Pv.aload rfl rfl ?_
  refine Pv.lit rfl ?_
  refine Pv.putI rfl rfl ?_
  refine Pv.aload rfl rfl ?_
  refine Pv.iload rfl rfl ?_
  refine Pv.callVI (as := [.ref 69, .int x]) (rest := []) (z := b2i (nd (t_m T) x).isSome) rfl rfl rfl (q_isMan (hT.fx (P := fun q => q = 69) (((FX.rf (P := fun q => q = 69))).fp rfl) (by decide)) (hG.fx (P := fun _ => True) (((FX.rf (P := fun _ => True))).fp trivial)) x) ?_
  refine Pv.if0 rfl (fun c1 => ?_) (fun c1 => ?_)
  · skip
    replace c1 := of_decide_eq_true c1
    replace c1 := b2z.mp c1
    refine Pv.lit rfl ?_
    exact Pv.ret rfl (by rw [hQ]; exact ⟨by unfold a_meet liv2; rw [nd_f c1], (RDR.rf).fp (Or.inl rfl)⟩)
  · skip
    replace c1 := of_decide_eq_false c1
    replace c1 := b2n.mp c1
    obtain ⟨m, hm, hml, rfl⟩ := nd_t c1
    refine Pv.aload rfl rfl ?_
    refine Pv.iload rfl rfl ?_
    refine Pv.callVI (as := [.ref 69, .int y]) (rest := []) (z := b2i (nd (t_m T) y).isSome) rfl rfl rfl (q_isMan (hT.fx (P := fun q => q = 69) (((FX.rf (P := fun q => q = 69))).fp rfl) (by decide)) (hG.fx (P := fun _ => True) (((FX.rf (P := fun _ => True))).fp trivial)) y) ?_
    refine Pv.if0 rfl (fun c2 => ?_) (fun c2 => ?_)
    · skip
      replace c2 := of_decide_eq_true c2
      replace c2 := b2z.mp c2
      refine Pv.lit rfl ?_
      exact Pv.ret rfl (by rw [hQ]; exact ⟨by unfold a_meet liv2; rw [hm]; dsimp only; rw [nd_f c2], (RDR.rf).fp (Or.inl rfl)⟩)
    · skip
      replace c2 := of_decide_eq_false c2
      replace c2 := b2n.mp c2
      obtain ⟨o, ho, hol, rfl⟩ := nd_t c2
      refine Pv.iload rfl rfl ?_
      refine Pv.iload rfl rfl ?_
      refine Pv.icmp rfl (fun c3 => ?_) (fun c3 => ?_)
      · skip
        replace c3 := (i_eq (a := m) (b := o) (by omega) (by omega)).mp (of_decide_eq_true c3)
        refine Pv.lit rfl ?_
        exact Pv.ret rfl (by rw [hQ]; exact ⟨by unfold a_meet liv2; rw [hm]; dsimp only; rw [ho]; dsimp only; rw [if_neg (fun q => q.1 c3)], (RDR.rf).fp (Or.inl rfl)⟩)
      · skip
        replace c3 := mt (i_eq (a := m) (b := o) (by omega) (by omega)).mpr (of_decide_eq_false c3)
        refine Pv.aload rfl rfl ?_
        refine Pv.iload rfl rfl ?_
        refine Pv.callVI (as := [.ref 69, .int (Int32.ofNat m)]) (rest := []) (z := b2i (!m_alive S m)) rfl rfl rfl (g_isDead (o := 0) (m := m) (hS.xd.fx (P := fun q => q = 69) (((FX.rf (P := fun q => q = 69))).fp rfl) (by decide)) (hG.fx (P := fun _ => True) (((FX.rf (P := fun _ => True))).fp trivial)) (by omega)) ?_
        refine Pv.if0 rfl (fun c4 => ?_) (fun c4 => ?_)
        · skip
          replace c4 : decide (b2i (!m_alive S m) = 0) = false := by simpa using c4
          replace c4 := of_decide_eq_false c4
          replace c4 := b2n.mp c4
          refine Pv.lit rfl ?_
          exact Pv.ret rfl (by rw [hQ]; exact ⟨by unfold a_meet liv2; rw [hm]; dsimp only; rw [ho]; dsimp only; rw [if_neg (fun q => by have z := c4; rw [q.2.1] at z; cases z)], (RDR.rf).fp (Or.inl rfl)⟩)
        · skip
          replace c4 : decide (b2i (!m_alive S m) = 0) = true := by simpa using c4
          replace c4 := of_decide_eq_true c4
          replace c4 := b2z.mp c4
          refine Pv.aload rfl rfl ?_
          refine Pv.iload rfl rfl ?_
          refine Pv.callVI (as := [.ref 69, .int (Int32.ofNat o)]) (rest := []) (z := b2i (!m_alive S o)) rfl rfl rfl (g_isDead (o := 0) (m := o) (hS.xd.fx (P := fun q => q = 69) (((FX.rf (P := fun q => q = 69))).fp rfl) (by decide)) (hG.fx (P := fun _ => True) (((FX.rf (P := fun _ => True))).fp trivial)) (by omega)) ?_
          refine Pv.if0 rfl (fun c5 => ?_) (fun c5 => ?_)
          · skip
            replace c5 := of_decide_eq_true c5
            replace c5 := b2z.mp c5
            have a1 : m_alive S m = true := by simpa using c4
            have a2 : m_alive S o = true := by simpa using c5
            refine Pv.aload rfl rfl ?_
            refine Pv.callV (as := [.ref 69]) (rest := []) rfl rfl rfl (g_tries (hG.fx (P := fun _ => True) (((FX.rf (P := fun _ => True))).fp trivial))) ?_
            rintro _ G6 ⟨rfl, x7, y8⟩
            have rt9 := RT.of ((RDR.rf).fp (Or.inl rfl)) x7 y8
            have hs10 := RT.ofS ((RDR.rf).fp (Or.inl rfl)) x7 b3 hS
            have hx11 := RT.T rt9 hT
            have hx12 := RT.G rt9 hG
            refine (show Pv _ _ 48 [some (.ref 69), some (.int (Int32.ofNat m)), some (.int (Int32.ofNat o)), none, none] [] G6 Q from ?_)
            refine Pv.lit rfl ?_
            refine Pv.istore (lo' := [some (.ref 69), some (.int (Int32.ofNat m)), some (.int (Int32.ofNat o)), some (.int 0), none]) rfl rfl ?_
            refine Pv.lit rfl ?_
            refine Pv.istore (lo' := [some (.ref 69), some (.int (Int32.ofNat m)), some (.int (Int32.ofNat o)), some (.int 0), some (.int 1)]) rfl rfl ?_
            refine Pv.lp (ι := Nat × Int32 × FW) (lof := fun ⟨k, b, G⟩ => [some (.ref 69), some (.int (Int32.ofNat m)), some (.int (Int32.ofNat o)), some (.int (Int32.ofNat k)), some (.int b)]) (Ff := fun ⟨k, b, G⟩ => G) (P := fun ⟨k, b, G⟩ => RT F G ∧ (b = 0 → m_fst (pMeet T S m o) 101 = none) ∧ (¬ b = 0 → k ≤ 100 ∧ XS G (t_m T) (m_days T S k) ∧ m_fst (pMeet T S m o) k = none)) ?_ (0, 1, G6) (⟨rt9, fun q => absurd q (by decide), fun _ => ⟨Nat.zero_le _, hs10, rfl⟩⟩)
            rintro N13 hN14 ⟨k, b, G⟩ hi15 ih16
            refine (show Pv _ _ 53 [some (.ref 69), some (.int (Int32.ofNat m)), some (.int (Int32.ofNat o)), some (.int (Int32.ofNat k)), some (.int b)] [] G Q from ?_)
            obtain ⟨rt, h0, h1⟩ := hi15
            have hx17 := RT.T rt hT
            have hx18 := RT.G rt hG
            refine Pv.iloadS rfl rfl ?_
            refine Pv.if0 rfl (fun c19 => ?_) (fun c19 => ?_)
            · skip
              replace c19 := of_decide_eq_true c19
              refine Pv.aload rfl rfl ?_
              refine Pv.callV (as := [.ref 69]) (rest := []) rfl rfl rfl (g_back hx18) ?_
              rintro _ G20 ⟨rfl, x21, y22, z23⟩
              have rd24 := RT.bk rt x21 y22 z23
              refine (show Pv _ _ 99 [some (.ref 69), some (.int (Int32.ofNat m)), some (.int (Int32.ofNat o)), some (.int (Int32.ofNat k)), some (.int b)] [] G20 Q from ?_)
              refine Pv.iload rfl rfl ?_
              refine Pv.if0 rfl (fun c25 => ?_) (fun c25 => ?_)
              · skip
                replace c25 := of_decide_eq_true c25
                refine Pv.lit rfl ?_
                exact Pv.ret rfl (by rw [hQ]; exact ⟨by unfold a_meet liv2; rw [hm]; dsimp only; rw [ho]; dsimp only; rw [if_pos ⟨c3, a1, a2⟩]; dsimp only; rw [h0 c19], rd24⟩)
              · skip
                replace c25 := of_decide_eq_false c25
                exact absurd c19 c25
            · skip
              replace c19 := of_decide_eq_false c19
              obtain ⟨hk, hxs, hb⟩ := h1 c19
              have hx26 := RT.T rt hT
              have hx27 := RT.G rt hG
              have bD28 := XS.db hxs
              have g1 := hd_1 T (m_days T S k)
              refine Pv.aload rfl rfl ?_
              refine Pv.iload rfl rfl ?_
              refine Pv.iload rfl rfl ?_
              refine Pv.callVI (as := [.ref 69, .int (Int32.ofNat m), .int (Int32.ofNat o)]) (rest := []) (z := b2i (m_unl (m_days T S k) m o)) rfl rfl rfl (g_areUnlike (m := m) (o := o) hxs.xd hx27 (by omega) (by omega) (by omega)) ?_
              refine Pv.if0 rfl (fun c29 => ?_) (fun c29 => ?_)
              · skip
                replace c29 := of_decide_eq_true c29
                replace c29 := b2z.mp c29
                refine Pv.aload rfl rfl ?_
                refine Pv.callV (as := [.ref 69]) (rest := []) rfl rfl rfl (g_back hx27) ?_
                rintro _ G30 ⟨rfl, x31, y32, z33⟩
                have rd34 := RT.bk rt x31 y32 z33
                refine (show Pv _ _ 99 [some (.ref 69), some (.int (Int32.ofNat m)), some (.int (Int32.ofNat o)), some (.int (Int32.ofNat k)), some (.int b)] [] G30 Q from ?_)
                refine Pv.iload rfl rfl ?_
                refine Pv.if0 rfl (fun c35 => ?_) (fun c35 => ?_)
                · skip
                  replace c35 := of_decide_eq_true c35
                  exact absurd c35 c19
                · skip
                  replace c35 := of_decide_eq_false c35
                  refine Pv.iload rfl rfl ?_
                  refine Pv.goto rfl ?_
                  exact Pv.ret rfl (by rw [hQ]; exact ⟨by unfold a_meet liv2; rw [hm]; dsimp only; rw [ho]; dsimp only; rw [if_pos ⟨c3, a1, a2⟩]; dsimp only; rw [m_fst_e hb (meet_t a1 a2 b3 c29) (by omega)], rd34⟩)
              · skip
                replace c29 := of_decide_eq_false c29
                replace c29 := b2n.mp c29
                have pf : pMeet T S m o k = false := meet_f a1 a2 b3 c29
                refine Pv.iload rfl rfl ?_
                refine Pv.lit rfl ?_
                refine Pv.icmp rfl (fun c36 => ?_) (fun c36 => ?_)
                · skip
                  replace c36 := (i_le (a := 100) (b := k) (by omega) (by omega)).mp (of_decide_eq_true c36)
                  refine Pv.lit rfl ?_
                  refine Pv.istore (lo' := [some (.ref 69), some (.int (Int32.ofNat m)), some (.int (Int32.ofNat o)), some (.int (Int32.ofNat k)), some (.int 0)]) rfl rfl ?_
                  refine Pv.iinc (y := Int32.ofNat (k + 1)) (lo' := [some (.ref 69), some (.int (Int32.ofNat m)), some (.int (Int32.ofNat o)), some (.int (Int32.ofNat (k + 1))), some (.int 0)]) rfl rfl (i_add k 1) rfl ?_
                  refine Pv.goto rfl ?_
                  exact ih16 (k + 1, 0, G) (⟨rt, fun _ => by rw [show 101 = k + 1 by omega]; exact m_fst_n hb pf, fun q => absurd rfl q⟩)
                · skip
                  replace c36 := mt (i_le (a := 100) (b := k) (by omega) (by omega)).mpr (of_decide_eq_false c36)
                  refine Pv.aload rfl rfl ?_
                  refine Pv.lit rfl ?_
                  refine Pv.callV (as := [.ref 69, .int 1]) (rest := []) rfl rfl rfl (g_goesOn (n := 1) hx26 hxs hx27 hTB (INV.sb (INV_days hTB hT.gb hI k)) (by omega)) ?_
                  rintro _ G37 ⟨rfl, x38, hs39⟩
                  have rt40 := RT.rx rt x38
                  have hx41 := RT.T rt40 hT
                  have hx42 := RT.G rt40 hG
                  have bD43 := XS.db hs39
                  refine (show Pv _ _ 78 [some (.ref 69), some (.int (Int32.ofNat m)), some (.int (Int32.ofNat o)), some (.int (Int32.ofNat k)), some (.int b)] [.int (Int32.ofNat (h_d (m_days T (m_days T S k) 1) - h_d (m_days T S k)))] G37 Q from ?_)
                  refine Pv.lit rfl ?_
                  refine Pv.icmp rfl (fun c44 => ?_) (fun c44 => ?_)
                  · skip
                    replace c44 : decide (Int32.ofNat (h_d (m_days T (m_days T S k) 1) - h_d (m_days T S k)) = 1) = false := by simpa using c44
                    replace c44 := mt (i_eq (a := h_d (m_days T (m_days T S k) 1) - h_d (m_days T S k)) (b := 1) (by omega) (by omega)).mpr (of_decide_eq_false c44)
                    refine Pv.lit rfl ?_
                    refine Pv.istore (lo' := [some (.ref 69), some (.int (Int32.ofNat m)), some (.int (Int32.ofNat o)), some (.int (Int32.ofNat k)), some (.int 0)]) rfl rfl ?_
                    refine Pv.iinc (y := Int32.ofNat (k + 1)) (lo' := [some (.ref 69), some (.int (Int32.ofNat m)), some (.int (Int32.ofNat o)), some (.int (Int32.ofNat (k + 1))), some (.int 0)]) rfl rfl (i_add k 1) rfl ?_
                    refine Pv.goto rfl ?_
                    exact ih16 (k + 1, 0, G37) (⟨rt40, fun _ => m_fst_z hb (by omega) (fun i hi => by unfold pMeet; rw [m_days_e (T := T) (S := S) hi (by omega)]; exact pf), fun q => absurd rfl q⟩)
                  · skip
                    replace c44 : decide (Int32.ofNat (h_d (m_days T (m_days T S k) 1) - h_d (m_days T S k)) = 1) = true := by simpa using c44
                    replace c44 := (i_eq (a := h_d (m_days T (m_days T S k) 1) - h_d (m_days T S k)) (b := 1) (by omega) (by omega)).mp (of_decide_eq_true c44)
                    refine Pv.lit rfl ?_
                    refine Pv.goto rfl ?_
                    refine Pv.istore (lo' := [some (.ref 69), some (.int (Int32.ofNat m)), some (.int (Int32.ofNat o)), some (.int (Int32.ofNat k)), some (.int 1)]) rfl rfl ?_
                    refine Pv.iinc (y := Int32.ofNat (k + 1)) (lo' := [some (.ref 69), some (.int (Int32.ofNat m)), some (.int (Int32.ofNat o)), some (.int (Int32.ofNat (k + 1))), some (.int 1)]) rfl rfl (i_add k 1) rfl ?_
                    refine Pv.goto rfl ?_
                    exact ih16 (k + 1, 1, G37) (⟨rt40, fun q => absurd q (by decide), fun _ => ⟨by omega, (show XS G37 (t_m T) (m_days T S (k + 1)) from hs39), m_fst_n hb pf⟩⟩)
          · skip
            replace c5 := of_decide_eq_false c5
            replace c5 := b2n.mp c5
            refine Pv.lit rfl ?_
            exact Pv.ret rfl (by rw [hQ]; exact ⟨by unfold a_meet liv2; rw [hm]; dsimp only; rw [ho]; dsimp only; rw [if_neg (fun q => by have z := c5; rw [q.2.2] at z; cases z)], (RDR.rf).fp (Or.inl rfl)⟩)
set_option maxRecDepth 100000 in
set_option maxHeartbeats 4000000 in
theorem q_goes {F : FW} {T : St} {S : Sh} (hT : XT F T) (hS : XS F (t_m T) S) (hG : GW F) (hTB : TBB T) (hI : INV T S) (x : Int32) : Pm Z_X11_goes [.ref 69, .int x] F (fun r F' => r = some (.int (a_goes T S x)) ∧ RDR F F') := by
  refine Pm.of fun N => ?_
  obtain ⟨Q, hQ⟩ : ∃ Q : Option Value → FW → Prop, Q = (fun r F' => r = some (.int (a_goes T S x)) ∧ RDR F F') := ⟨_, rfl⟩
  rw [← hQ]
  have b3 := hT.mb
  have b4 := hT.nb
  have b5 := hT.gb
  have b6 := m_from_lt S
  have b7 := hS.db
  have hSB := hI.sb
  refine (show Pv (ab_T (L_X11_goes Z_X11_isGood Z_X11_goingSet Z_X11_goesOf)) N 0 [some (.ref 69), some (.int x), none] [] F Q from ?_)
  refine Pv.aload rfl rfl ?_
  refine Pv.lit rfl ?_
  refine Pv.putI rfl rfl ?_
  refine Pv.aload rfl rfl ?_
  refine Pv.iload rfl rfl ?_
  refine Pv.callVI (as := [.ref 69, .int x]) (rest := []) (z := b2i (nd (t_g T) x).isSome) rfl rfl rfl (q_isGood (hT.fx (P := fun q => q = 69) (((FX.rf (P := fun q => q = 69))).fp rfl) (by decide)) (hG.fx (P := fun _ => True) (((FX.rf (P := fun _ => True))).fp trivial)) x) ?_
  refine Pv.if0 rfl (fun c1 => ?_) (fun c1 => ?_)
  · skip
    replace c1 : decide (b2i (nd (t_g T) x).isSome = 0) = false := by simpa using c1
    replace c1 := of_decide_eq_false c1
    replace c1 := b2n.mp c1
    obtain ⟨g, hg, hgl, rfl⟩ := nd_t c1
    refine Pv.aload rfl rfl ?_
    refine Pv.getR (v := .ref 71) rfl rfl (GW.at (a := 69) (k := 6) (b := 71) hG (by decide)) ?_
    refine Pv.lit rfl ?_
    refine Pv.ald (z := Int32.ofNat (h_d S)) rfl ((fp_ne (Or.inl (by decide))).trans (hS.d)) ?_
    refine Pv.lit rfl ?_
    refine Pv.icmp rfl (fun c2 => ?_) (fun c2 => ?_)
    · skip
      replace c2 : decide (Int32.ofNat (h_d S) = 400) = false := by simpa using c2
      replace c2 := mt (i_eq (a := h_d S) (b := 400) (by omega) (by omega)).mpr (of_decide_eq_false c2)
      refine Pv.aload rfl rfl ?_
      refine Pv.callVI (as := [.ref 69]) (rest := []) (z := m_board T S) rfl rfl rfl (g_goingSet  (hT.fx (P := fun q => q = 69) (((FX.rf (P := fun q => q = 69))).fp rfl) (by decide)) (hS.fx (P := fun q => q = 69) b3 (((FX.rf (P := fun q => q = 69))).fp rfl) (by decide)) (hG.fx (P := fun _ => True) (((FX.rf (P := fun _ => True))).fp trivial)) (by omega)) ?_
      refine Pv.pop rfl ?_
      have e0 : t_l T - (m_pm T S (t_m T)).2 = t_l T - m_pg T S 0 := rfl
      rw [e0]
      refine Pv.lit rfl ?_
      refine Pv.istore (lo' := [some (.ref 69), some (.int (Int32.ofNat g)), some (.int 0)]) rfl rfl ?_
      refine Pv.lp (ι := Nat) (lof := fun k => [some (.ref 69), some (.int (Int32.ofNat g)), some (.int (Int32.ofNat k))]) (Ff := fun k => (fp (fp F 69 0 0) 69 22 (t_l T - m_pg T S k))) (P := fun k => k ≤ g) ?_ 0 (Nat.zero_le _)
      rintro N3 hN4 k hi5 ih6
      refine (show Pv _ _ 37 [some (.ref 69), some (.int (Int32.ofNat g)), some (.int (Int32.ofNat k))] [] (fp (fp F 69 0 0) 69 22 (t_l T - m_pg T S k)) Q from ?_)
      have hk := hi5
      refine Pv.iloadS rfl rfl ?_
      refine Pv.iload rfl rfl ?_
      refine Pv.icmp rfl (fun c7 => ?_) (fun c7 => ?_)
      · skip
        replace c7 := (i_le (a := g) (b := k) (by omega) (by omega)).mp (of_decide_eq_true c7)
        refine Pv.aload rfl rfl ?_
        refine Pv.iload rfl rfl ?_
        refine Pv.callVI (as := [.ref 69, .int (Int32.ofNat g)]) (rest := []) (z := m_less (t_l T - m_pg T S k) (m_less (h_s S (2 * g + m_from S)) (m_lackr (t_a T (1 * 12 + (2 * g + (1 - m_from S)))) (h_s S (2 * g + (1 - m_from S)))))) rfl rfl rfl (g_goesOf (g := g) (d := h_d S) (rm := t_l T - m_pg T S k) (x := h_s S (2 * g + m_from S)) (y := h_s S (2 * g + (1 - m_from S))) (w := t_a T (1 * 12 + (2 * g + (1 - m_from S)))) (hG.fx (P := fun _ => True) ((((FX.rf (P := fun _ => True))).fp trivial).fp trivial)) (by omega) (by omega) (fp_eq) ((fp_ne (Or.inl (by decide))).trans ((fp_ne (Or.inl (by decide))).trans (hS.d))) ((fp_ne (Or.inl (by decide))).trans ((fp_ne (Or.inl (by decide))).trans (hS.s _ (by omega)))) ((fp_ne (Or.inl (by decide))).trans ((fp_ne (Or.inl (by decide))).trans (hS.s _ (by omega)))) ((fp_ne (Or.inl (by decide))).trans ((fp_ne (Or.inl (by decide))).trans (hT.wa _ (by omega))))) ?_
        have ez : m_less (t_l T - m_pg T S k) (m_less (h_s S (2 * g + m_from S)) (m_lackr (t_a T (1 * 12 + (2 * g + (1 - m_from S)))) (h_s S (2 * g + (1 - m_from S))))) = m_fr T S g := fr_eq0 hTB hSB (by omega) (by omega) (by omega)
        rw [ez]
        exact Pv.ret rfl (by rw [hQ]; exact ⟨by unfold a_goes; rw [hg], ((RDR.rf).fp (Or.inl rfl)).fp (Or.inr (Or.inl rfl))⟩)
      · skip
        replace c7 := mt (i_le (a := g) (b := k) (by omega) (by omega)).mpr (of_decide_eq_false c7)
        refine Pv.aload rfl rfl ?_
        refine Pv.dup rfl ?_
        refine Pv.getI (z := t_l T - m_pg T S k) rfl rfl (fp_eq) ?_
        refine Pv.aload rfl rfl ?_
        refine Pv.iload rfl rfl ?_
        refine Pv.callVI (as := [.ref 69, .int (Int32.ofNat k)]) (rest := [.int (t_l T - m_pg T S k), .ref 69]) (z := m_less (t_l T - m_pg T S k) (m_less (h_s S (2 * k + m_from S)) (m_lackr (t_a T (1 * 12 + (2 * k + (1 - m_from S)))) (h_s S (2 * k + (1 - m_from S)))))) rfl rfl rfl (g_goesOf (g := k) (d := h_d S) (rm := t_l T - m_pg T S k) (x := h_s S (2 * k + m_from S)) (y := h_s S (2 * k + (1 - m_from S))) (w := t_a T (1 * 12 + (2 * k + (1 - m_from S)))) (hG.fx (P := fun _ => True) ((((FX.rf (P := fun _ => True))).fp trivial).fp trivial)) (by omega) (by omega) (fp_eq) ((fp_ne (Or.inl (by decide))).trans ((fp_ne (Or.inl (by decide))).trans (hS.d))) ((fp_ne (Or.inl (by decide))).trans ((fp_ne (Or.inl (by decide))).trans (hS.s _ (by omega)))) ((fp_ne (Or.inl (by decide))).trans ((fp_ne (Or.inl (by decide))).trans (hS.s _ (by omega)))) ((fp_ne (Or.inl (by decide))).trans ((fp_ne (Or.inl (by decide))).trans (hT.wa _ (by omega))))) ?_
        have ez : m_less (t_l T - m_pg T S k) (m_less (h_s S (2 * k + m_from S)) (m_lackr (t_a T (1 * 12 + (2 * k + (1 - m_from S)))) (h_s S (2 * k + (1 - m_from S))))) = m_fr T S k := fr_eq0 hTB hSB (by omega) (by omega) (by omega)
        rw [ez]
        refine Pv.bin (z := (t_l T - m_pg T S k) - (m_fr T S k)) rfl (rfl) ?_
        refine Pv.putI rfl rfl ?_
        refine Pv.iinc (y := Int32.ofNat (k + 1)) (lo' := [some (.ref 69), some (.int (Int32.ofNat g)), some (.int (Int32.ofNat (k + 1)))]) rfl rfl (i_add k 1) rfl ?_
        refine Pv.goto rfl ?_
        refine Pv.fE (G := fp (fp F 69 0 0) 69 22 (t_l T - m_pg T S (k + 1))) (fp_fp.trans (congrArg (fp (fp F 69 0 0) 69 22) (i_ss _ _ _))) ?_
        exact ih6 (k + 1) (by omega)
    · skip
      replace c2 : decide (Int32.ofNat (h_d S) = 400) = true := by simpa using c2
      replace c2 := (i_eq (a := h_d S) (b := 400) (by omega) (by omega)).mp (of_decide_eq_true c2)
      refine Pv.lit rfl ?_
      exact Pv.ret rfl (by rw [hQ]; exact ⟨by unfold a_goes; rw [hg]; dsimp only; rw [fr_400 hTB hSB (by omega) (by omega)], (RDR.rf).fp (Or.inl rfl)⟩)
  · skip
    replace c1 : decide (b2i (nd (t_g T) x).isSome = 0) = true := by simpa using c1
    replace c1 := of_decide_eq_true c1
    replace c1 := b2z.mp c1
    refine Pv.lit rfl ?_
    exact Pv.ret rfl (by rw [hQ]; exact ⟨by unfold a_goes; rw [nd_f c1], (RDR.rf).fp (Or.inl rfl)⟩)
set_option maxRecDepth 100000 in
set_option maxHeartbeats 4000000 in
theorem q_prices {F : FW} {T : St} {S : Sh} (hT : XT F T) (hS : XS F (t_m T) S) (hG : GW F) (hTB : TBB T) (hI : INV T S) : Pm Z_X11_prices [.ref 69] F (fun r F' => r = some (.int (Int32.ofNat (m_rounds T S))) ∧ RDP F F' ∧ F'.1 69 28 = Int32.ofNat (t_g T) ∧ AR F' 80 12 (m_row T S (m_rounds T S))) := by
  refine Pm.of fun N => ?_
  obtain ⟨Q, hQ⟩ : ∃ Q : Option Value → FW → Prop, Q = (fun r F' => r = some (.int (Int32.ofNat (m_rounds T S))) ∧ RDP F F' ∧ F'.1 69 28 = Int32.ofNat (t_g T) ∧ AR F' 80 12 (m_row T S (m_rounds T S))) := ⟨_, rfl⟩
  rw [← hQ]
  have b3 := hT.mb
  have b4 := hT.nb
  have b5 := hT.gb
  have b6 := m_from_lt S
  have b7 := hS.db
  have hSB := hI.sb
  refine (show Pv (ab_T (L_X11_prices Z_X11_tries Z_X11_goesOn Z_X11_back)) N 0 [some (.ref 69), none, none, none, none] [] F Q from ?_)
  refine Pv.aload rfl rfl ?_
  refine Pv.lit rfl ?_
  refine Pv.putI rfl rfl ?_
  refine Pv.aload rfl rfl ?_
  refine Pv.aload rfl rfl ?_
  refine Pv.getR (v := .ref 71) rfl rfl (GW.at (a := 69) (k := 6) (b := 71) hG (by decide)) ?_
  refine Pv.lit rfl ?_
  refine Pv.ald (z := Int32.ofNat (t_g T)) rfl ((fp_ne (Or.inl (by decide))).trans (hT.g)) ?_
  refine Pv.putI rfl rfl ?_
  refine Pv.lit rfl ?_
  refine Pv.istore (lo' := [some (.ref 69), some (.int 0), none, none, none]) rfl rfl ?_
  refine Pv.lp (ι := Nat × FW) (lof := fun ⟨k, G⟩ => [some (.ref 69), some (.int (Int32.ofNat k)), none, none, none]) (Ff := fun ⟨k, G⟩ => G) (P := fun ⟨k, G⟩ => (k ≤ 12) ∧ (RDP F G) ∧ (G.1 69 28 = Int32.ofNat (t_g T)) ∧ (AR G 80 k (fun _ => 5))) ?_ (0, (fp (fp F 69 0 0) 69 28 (Int32.ofNat (t_g T)))) (⟨Nat.zero_le _, (RDP.fp (RDP.fp RDP.rf (Or.inl rfl)) (Or.inr (Or.inr rfl))), fp_eq, AR.z⟩)
  rintro N1 hN2 ⟨k, G⟩ hi3 ih4
  refine (show Pv _ _ 17 [some (.ref 69), some (.int (Int32.ofNat k)), none, none, none] [] G Q from ?_)
  obtain ⟨hk, rt, h28, h80⟩ := hi3
  have hx5 := RDP.T rt hT
  have hx6 := RDP.G rt hG
  have bD7 := XS.db (RDP.S rt b3 hS)
  refine Pv.iloadS rfl rfl ?_
  refine Pv.lit rfl ?_
  refine Pv.icmp rfl (fun c8 => ?_) (fun c8 => ?_)
  · skip
    replace c8 := (i_le (a := 12) (b := k) (by omega) (by omega)).mp (of_decide_eq_true c8)
    refine Pv.aload rfl rfl ?_
    refine Pv.callV (as := [.ref 69]) (rest := []) rfl rfl rfl (g_tries hx6) ?_
    rintro _ G9 ⟨rfl, x10, y11⟩
    have rt12 := RTP.of rt x10 y11
    have hs13 := RTP.ofS rt x10 b3 hS
    have hv14 : G9.1 69 28 = Int32.ofNat (t_g T) := (x10.1 69 28 (by decide)).trans h28
    have hA15 : AR G9 80 12 (fun _ => 5) := AR.fx (h80.le (by omega)) x10 (by decide)
    have hx16 := RTP.T rt12 hT
    have hx17 := RTP.G rt12 hG
    have bD18 := XS.db hs13
    refine (show Pv _ _ 40 [some (.ref 69), some (.int (Int32.ofNat k)), none, none, none] [] G9 Q from ?_)
    refine Pv.lit rfl ?_
    refine Pv.istore (lo' := [some (.ref 69), some (.int 0), none, none, none]) rfl rfl ?_
    refine Pv.lit rfl ?_
    refine Pv.istore (lo' := [some (.ref 69), some (.int 0), some (.int 1), none, none]) rfl rfl ?_
    refine Pv.lp (ι := Nat × Int32 × FW × (Option Value) × (Option Value)) (lof := fun ⟨r, b, G2, o19, o20⟩ => [some (.ref 69), some (.int (Int32.ofNat r)), some (.int b), o19, o20]) (Ff := fun ⟨r, b, G2, o19, o20⟩ => G2) (P := fun ⟨r, b, G2, o19, o20⟩ => (r ≤ 60) ∧ (RTP F G2) ∧ (XS G2 (t_m T) (m_days T S r)) ∧ (G2.1 69 28 = Int32.ofNat (t_g T)) ∧ (AR G2 80 12 (m_row T S r)) ∧ (¬ b = 0 → m_fst (pRest T S) r = none) ∧ (b = 0 → m_rounds T S = r)) ?_ (0, 1, G9, none, none) (⟨Nat.zero_le _, rt12, hs13, hv14, hA15, fun _ => rfl, fun q => absurd q (by decide)⟩)
    rintro N21 hN22 ⟨r, b, G2, o19, o20⟩ hi23 ih24
    refine (show Pv _ _ 44 [some (.ref 69), some (.int (Int32.ofNat r)), some (.int b), o19, o20] [] G2 Q from ?_)
    obtain ⟨hk, rt, hxs, h28, h80, hn, hz⟩ := hi23
    have hx25 := RTP.T rt hT
    have hx26 := RTP.G rt hG
    have bD27 := XS.db hxs
    refine Pv.iloadS rfl rfl ?_
    refine Pv.if0 rfl (fun c28 => ?_) (fun c28 => ?_)
    · skip
      replace c28 := of_decide_eq_true c28
      refine Pv.aload rfl rfl ?_
      refine Pv.callV (as := [.ref 69]) (rest := []) rfl rfl rfl (g_back hx26) ?_
      rintro _ G29 ⟨rfl, x30, y31, z32⟩
      have rd33 := RTP.bk rt x30 y31 z32
      have hv34 : G29.1 69 28 = Int32.ofNat (t_g T) := (x30.1 69 28 (by decide)).trans h28
      have hA35 := AR.fx h80 x30 (by decide)
      refine (show Pv _ _ 191 [some (.ref 69), some (.int (Int32.ofNat r)), some (.int b), o19, o20] [] G29 Q from ?_)
      refine Pv.iload rfl rfl ?_
      exact Pv.ret rfl (by rw [hQ]; exact ⟨by rw [hz c28], rd33, hv34, (hA35).eq (congrArg (m_row T S) (hz c28).symm)⟩)
    · skip
      replace c28 := of_decide_eq_false c28
      refine Pv.iload rfl rfl ?_
      refine Pv.lit rfl ?_
      refine Pv.icmp rfl (fun c36 => ?_) (fun c36 => ?_)
      · skip
        replace c36 := (i_le (a := 60) (b := r) (by omega) (by omega)).mp (of_decide_eq_true c36)
        refine Pv.aload rfl rfl ?_
        refine Pv.callV (as := [.ref 69]) (rest := []) rfl rfl rfl (g_back hx26) ?_
        rintro _ G37 ⟨rfl, x38, y39, z40⟩
        have rd41 := RTP.bk rt x38 y39 z40
        have hv42 : G37.1 69 28 = Int32.ofNat (t_g T) := (x38.1 69 28 (by decide)).trans h28
        have hA43 := AR.fx h80 x38 (by decide)
        refine (show Pv _ _ 191 [some (.ref 69), some (.int (Int32.ofNat r)), some (.int b), o19, o20] [] G37 Q from ?_)
        refine Pv.iload rfl rfl ?_
        exact Pv.ret rfl (by rw [hQ]; exact ⟨by rw [rounds_60 (m_fst_59 (show 60 = r by omega) (hn c28)), show 60 = r by omega], rd41, hv42, (hA43).eq (congrArg (m_row T S) (by rw [rounds_60 (m_fst_59 (show 60 = r by omega) (hn c28))]; omega))⟩)
      · skip
        replace c36 := mt (i_le (a := 60) (b := r) (by omega) (by omega)).mpr (of_decide_eq_false c36)
        have hf := hn c28
        refine Pv.iinc (y := Int32.ofNat (r + 1)) (lo' := [some (.ref 69), some (.int (Int32.ofNat (r + 1))), some (.int b), o19, o20]) rfl rfl (i_add r 1) rfl ?_
        refine Pv.lit rfl ?_
        refine Pv.istore (lo' := [some (.ref 69), some (.int (Int32.ofNat (r + 1))), some (.int 0), o19, o20]) rfl rfl ?_
        refine Pv.lit rfl ?_
        refine Pv.istore (lo' := [some (.ref 69), some (.int (Int32.ofNat (r + 1))), some (.int 0), some (.int 0), o20]) rfl rfl ?_
        refine Pv.lp (ι := Nat × Int32 × FW × (Option Value)) (lof := fun ⟨k, b, G3, o44⟩ => [some (.ref 69), some (.int (Int32.ofNat (r + 1))), some (.int b), some (.int (Int32.ofNat k)), o44]) (Ff := fun ⟨k, b, G3, o44⟩ => G3) (P := fun ⟨k, b, G3, o44⟩ => (k ≤ 2 * t_g T) ∧ (RTP F G3) ∧ (XS G3 (t_m T) (m_days T S r)) ∧ (G3.1 69 28 = Int32.ofNat (t_g T)) ∧ (AR G3 80 12 (m_pI T (m_days T S r) (m_row T S r) k)) ∧ (b = b2i (m_pM T (m_days T S r) (m_row T S r) k))) ?_ (0, 0, G2, o20) (⟨Nat.zero_le _, rt, hxs, h28, h80, rfl⟩)
        rintro N45 hN46 ⟨k, b, G3, o44⟩ hi47 ih48
        refine (show Pv _ _ 61 [some (.ref 69), some (.int (Int32.ofNat (r + 1))), some (.int b), some (.int (Int32.ofNat k)), o44] [] G3 Q from ?_)
        obtain ⟨hk, rt, hxs, h28, h80, hm⟩ := hi47
        have hx49 := RTP.T rt hT
        have hx50 := RTP.G rt hG
        have bD51 := XS.db hxs
        refine Pv.iloadS rfl rfl ?_
        refine Pv.lit rfl ?_
        refine Pv.aload rfl rfl ?_
        refine Pv.getR (v := .ref 71) rfl rfl (GW.at (a := 69) (k := 6) (b := 71) hx50 (by decide)) ?_
        refine Pv.lit rfl ?_
        refine Pv.ald (z := Int32.ofNat (t_g T)) rfl (hx49.g) ?_
        refine Pv.bin (z := Int32.ofNat (2 * (t_g T))) rfl (i_mul 2 (t_g T)) ?_
        refine Pv.icmp rfl (fun c52 => ?_) (fun c52 => ?_)
        · skip
          replace c52 := (i_le (a := 2 * (t_g T)) (b := k) (by omega) (by omega)).mp (of_decide_eq_true c52)
          refine Pv.aload rfl rfl ?_
          refine Pv.lit rfl ?_
          refine Pv.callV (as := [.ref 69, .int 1]) (rest := []) rfl rfl rfl (g_goesOn (n := 1) hx49 hxs hx50 hTB (INV.sb (INV_days hTB hT.gb hI r)) (by omega)) ?_
          rintro _ G53 ⟨rfl, x54, hs55⟩
          have rt56 := RTP.rx rt x54
          have hv57 : G53.1 69 28 = Int32.ofNat (t_g T) := (x54.2.1 28 (by decide)).trans h28
          have hA58 := AR.fx h80 x54.1 (by decide)
          have hx59 := RTP.T rt56 hT
          have hx60 := RTP.G rt56 hG
          have bD61 := XS.db hs55
          refine (show Pv _ _ 183 [some (.ref 69), some (.int (Int32.ofNat (r + 1))), some (.int b), some (.int (Int32.ofNat k)), o44] [.int (Int32.ofNat (h_d (m_days T (m_days T S r) 1) - h_d (m_days T S r)))] G53 Q from ?_)
          refine Pv.pop rfl ?_
          refine Pv.goto rfl ?_
          exact (ih24 (r + 1, b, G53, (some (.int (Int32.ofNat k))), o44) (⟨by omega, rt56, (show XS G53 (t_m T) (m_days T S (r + 1)) from hs55), hv57, (show AR G53 80 12 (m_row T S (r + 1)) from hA58.eq (congrArg (m_pI T (m_days T S r) (m_row T S r)) (by omega))), fun q => m_fst_n hf (by unfold pRest; rw [show 2 * t_g T = k by omega, ← Bool.not_eq_true, Bool.not_eq_true']; exact fun z => q (by rw [hm, z]; rfl)), fun q => rounds_z hf (by unfold pRest; rw [show 2 * t_g T = k by omega, b2z.mp (hm.symm.trans q)]; rfl) (by omega)⟩)).mono (by omega)
        · skip
          replace c52 := mt (i_le (a := 2 * (t_g T)) (b := k) (by omega) (by omega)).mpr (of_decide_eq_false c52)
          refine Pv.aload rfl rfl ?_
          refine Pv.getR (v := .ref 80) rfl rfl (GW.at (a := 69) (k := 27) (b := 80) hx50 (by decide)) ?_
          refine Pv.iload rfl rfl ?_
          refine Pv.ald (z := (m_pI T (m_days T S r) (m_row T S r) k) k) rfl (by rw [i_toNat (by omega)]; exact h80 _ (by omega)) ?_
          refine Pv.istore (lo' := [some (.ref 69), some (.int (Int32.ofNat (r + 1))), some (.int b), some (.int (Int32.ofNat k)), some (.int ((m_pI T (m_days T S r) (m_row T S r) k) k))]) rfl rfl ?_
          refine Pv.aload rfl rfl ?_
          refine Pv.getR (v := .ref 71) rfl rfl (GW.at (a := 69) (k := 6) (b := 71) hx50 (by decide)) ?_
          refine Pv.lit rfl ?_
          refine Pv.iload rfl rfl ?_
          refine Pv.bin (z := Int32.ofNat (124 + k)) rfl (i_add 124 k) ?_
          refine Pv.ald (z := h_s (m_days T S r) k) rfl (by rw [i_toNat (by omega)]; exact hxs.s _ (by omega)) ?_
          refine Pv.aload rfl rfl ?_
          refine Pv.getR (v := .ref 71) rfl rfl (GW.at (a := 69) (k := 6) (b := 71) hx50 (by decide)) ?_
          refine Pv.lit rfl ?_
          refine Pv.iload rfl rfl ?_
          refine Pv.bin (z := Int32.ofNat (16 + k)) rfl (i_add 16 k) ?_
          refine Pv.ald (z := t_a T (1 * 12 + k)) rfl (by rw [i_toNat (by omega)]; exact hx49.wa _ (by omega)) ?_
          refine Pv.icmp rfl (fun c62 => ?_) (fun c62 => ?_)
          · skip
            replace c62 := of_decide_eq_true c62
            refine Pv.aload rfl rfl ?_
            refine Pv.getR (v := .ref 71) rfl rfl (GW.at (a := 69) (k := 6) (b := 71) hx50 (by decide)) ?_
            refine Pv.lit rfl ?_
            refine Pv.iload rfl rfl ?_
            refine Pv.bin (z := Int32.ofNat (124 + k)) rfl (i_add 124 k) ?_
            refine Pv.ald (z := h_s (m_days T S r) k) rfl (by rw [i_toNat (by omega)]; exact hxs.s _ (by omega)) ?_
            refine Pv.aload rfl rfl ?_
            refine Pv.getR (v := .ref 71) rfl rfl (GW.at (a := 69) (k := 6) (b := 71) hx50 (by decide)) ?_
            refine Pv.lit rfl ?_
            refine Pv.iload rfl rfl ?_
            refine Pv.bin (z := Int32.ofNat (16 + k)) rfl (i_add 16 k) ?_
            refine Pv.ald (z := t_a T (1 * 12 + k)) rfl (by rw [i_toNat (by omega)]; exact hx49.wa _ (by omega)) ?_
            refine Pv.icmp rfl (fun c63 => ?_) (fun c63 => ?_)
            · skip
              replace c63 := of_decide_eq_true c63
              refine Pv.iload rfl rfl ?_
              refine Pv.if0 rfl (fun c64 => ?_) (fun c64 => ?_)
              · skip
                replace c64 : decide (b = 0) = false := by simpa using c64
                replace c64 := of_decide_eq_false c64
                refine Pv.lit rfl ?_
                refine Pv.goto rfl ?_
                refine Pv.istore (lo' := [some (.ref 69), some (.int (Int32.ofNat (r + 1))), some (.int 1), some (.int (Int32.ofNat k)), some (.int ((m_pI T (m_days T S r) (m_row T S r) k) k))]) rfl rfl ?_
                refine Pv.iinc (y := Int32.ofNat (k + 1)) (lo' := [some (.ref 69), some (.int (Int32.ofNat (r + 1))), some (.int 1), some (.int (Int32.ofNat (k + 1))), some (.int ((m_pI T (m_days T S r) (m_row T S r) k) k))]) rfl rfl (i_add k 1) rfl ?_
                refine Pv.goto rfl ?_
                exact ih48 (k + 1, 1, G3, (some (.int ((m_pI T (m_days T S r) (m_row T S r) k) k)))) (⟨by omega, rt, hxs, h28, (h80).eq ((if_neg (Int32.not_lt.mpr c62)).trans (if_neg (fun q => Int32.not_le.mpr q.1 c63))).symm, (congrArg b2i (show m_pM T (m_days T S r) (m_row T S r) (k + 1) = true from by show m_pM T (m_days T S r) (m_row T S r) (k + 1) = _; show (m_pM T (m_days T S r) (m_row T S r) k || (decide (h_s (m_days T S r) k < t_a T (1 * 12 + k)) || (decide (t_a T (1 * 12 + k) < h_s (m_days T S r) k) && decide (0 < m_pI T (m_days T S r) (m_row T S r) k k)))) = _; rw [decide_eq_false (Int32.not_lt.mpr c62), decide_eq_false (Int32.not_lt.mpr c63), Bool.false_and, Bool.or_false, Bool.or_false]; exact b2n.mp (fun z => c64 (hm.trans z)))).symm⟩)
              · skip
                replace c64 : decide (b = 0) = true := by simpa using c64
                replace c64 := of_decide_eq_true c64
                refine Pv.aload rfl rfl ?_
                refine Pv.getR (v := .ref 80) rfl rfl (GW.at (a := 69) (k := 27) (b := 80) hx50 (by decide)) ?_
                refine Pv.iload rfl rfl ?_
                refine Pv.ald (z := (m_pI T (m_days T S r) (m_row T S r) k) k) rfl (by rw [i_toNat (by omega)]; exact h80 _ (by omega)) ?_
                refine Pv.iload rfl rfl ?_
                refine Pv.icmp rfl (fun c65 => ?_) (fun c65 => ?_)
                · skip
                  replace c65 := of_decide_eq_true c65
                  refine Pv.lit rfl ?_
                  refine Pv.istore (lo' := [some (.ref 69), some (.int (Int32.ofNat (r + 1))), some (.int 0), some (.int (Int32.ofNat k)), some (.int ((m_pI T (m_days T S r) (m_row T S r) k) k))]) rfl rfl ?_
                  refine Pv.iinc (y := Int32.ofNat (k + 1)) (lo' := [some (.ref 69), some (.int (Int32.ofNat (r + 1))), some (.int 0), some (.int (Int32.ofNat (k + 1))), some (.int ((m_pI T (m_days T S r) (m_row T S r) k) k))]) rfl rfl (i_add k 1) rfl ?_
                  refine Pv.goto rfl ?_
                  exact ih48 (k + 1, 0, G3, (some (.int ((m_pI T (m_days T S r) (m_row T S r) k) k)))) (⟨by omega, rt, hxs, h28, (h80).eq ((if_neg (Int32.not_lt.mpr c62)).trans (if_neg (fun q => Int32.not_le.mpr q.1 c63))).symm, (congrArg b2i (show m_pM T (m_days T S r) (m_row T S r) (k + 1) = false from by show m_pM T (m_days T S r) (m_row T S r) (k + 1) = _; show (m_pM T (m_days T S r) (m_row T S r) k || (decide (h_s (m_days T S r) k < t_a T (1 * 12 + k)) || (decide (t_a T (1 * 12 + k) < h_s (m_days T S r) k) && decide (0 < m_pI T (m_days T S r) (m_row T S r) k k)))) = _; rw [decide_eq_false (Int32.not_lt.mpr c62), decide_eq_false (Int32.not_lt.mpr c63), Bool.false_and, Bool.or_false, Bool.or_false]; exact b2z.mp (hm.symm.trans c64))).symm⟩)
                · skip
                  replace c65 := of_decide_eq_false c65
                  exact absurd rfl c65
            · skip
              replace c63 := of_decide_eq_false c63
              refine Pv.iload rfl rfl ?_
              refine Pv.if0 rfl (fun c66 => ?_) (fun c66 => ?_)
              · skip
                replace c66 := of_decide_eq_true c66
                refine Pv.iload rfl rfl ?_
                refine Pv.if0 rfl (fun c67 => ?_) (fun c67 => ?_)
                · skip
                  replace c67 : decide (b = 0) = false := by simpa using c67
                  replace c67 := of_decide_eq_false c67
                  refine Pv.lit rfl ?_
                  refine Pv.goto rfl ?_
                  refine Pv.istore (lo' := [some (.ref 69), some (.int (Int32.ofNat (r + 1))), some (.int 1), some (.int (Int32.ofNat k)), some (.int ((m_pI T (m_days T S r) (m_row T S r) k) k))]) rfl rfl ?_
                  refine Pv.iinc (y := Int32.ofNat (k + 1)) (lo' := [some (.ref 69), some (.int (Int32.ofNat (r + 1))), some (.int 1), some (.int (Int32.ofNat (k + 1))), some (.int ((m_pI T (m_days T S r) (m_row T S r) k) k))]) rfl rfl (i_add k 1) rfl ?_
                  refine Pv.goto rfl ?_
                  exact ih48 (k + 1, 1, G3, (some (.int ((m_pI T (m_days T S r) (m_row T S r) k) k)))) (⟨by omega, rt, hxs, h28, (h80).eq ((if_neg (Int32.not_lt.mpr c62)).trans (if_neg (fun q => Int32.not_le.mpr q.2 c66))).symm, (congrArg b2i (show m_pM T (m_days T S r) (m_row T S r) (k + 1) = true from by show m_pM T (m_days T S r) (m_row T S r) (k + 1) = _; show (m_pM T (m_days T S r) (m_row T S r) k || (decide (h_s (m_days T S r) k < t_a T (1 * 12 + k)) || (decide (t_a T (1 * 12 + k) < h_s (m_days T S r) k) && decide (0 < m_pI T (m_days T S r) (m_row T S r) k k)))) = _; rw [decide_eq_false (Int32.not_lt.mpr c62), decide_eq_false (Int32.not_lt.mpr c66), Bool.and_false, Bool.or_false, Bool.or_false]; exact b2n.mp (fun z => c67 (hm.trans z)))).symm⟩)
                · skip
                  replace c67 : decide (b = 0) = true := by simpa using c67
                  replace c67 := of_decide_eq_true c67
                  refine Pv.aload rfl rfl ?_
                  refine Pv.getR (v := .ref 80) rfl rfl (GW.at (a := 69) (k := 27) (b := 80) hx50 (by decide)) ?_
                  refine Pv.iload rfl rfl ?_
                  refine Pv.ald (z := (m_pI T (m_days T S r) (m_row T S r) k) k) rfl (by rw [i_toNat (by omega)]; exact h80 _ (by omega)) ?_
                  refine Pv.iload rfl rfl ?_
                  refine Pv.icmp rfl (fun c68 => ?_) (fun c68 => ?_)
                  · skip
                    replace c68 := of_decide_eq_true c68
                    refine Pv.lit rfl ?_
                    refine Pv.istore (lo' := [some (.ref 69), some (.int (Int32.ofNat (r + 1))), some (.int 0), some (.int (Int32.ofNat k)), some (.int ((m_pI T (m_days T S r) (m_row T S r) k) k))]) rfl rfl ?_
                    refine Pv.iinc (y := Int32.ofNat (k + 1)) (lo' := [some (.ref 69), some (.int (Int32.ofNat (r + 1))), some (.int 0), some (.int (Int32.ofNat (k + 1))), some (.int ((m_pI T (m_days T S r) (m_row T S r) k) k))]) rfl rfl (i_add k 1) rfl ?_
                    refine Pv.goto rfl ?_
                    exact ih48 (k + 1, 0, G3, (some (.int ((m_pI T (m_days T S r) (m_row T S r) k) k)))) (⟨by omega, rt, hxs, h28, (h80).eq ((if_neg (Int32.not_lt.mpr c62)).trans (if_neg (fun q => Int32.not_le.mpr q.2 c66))).symm, (congrArg b2i (show m_pM T (m_days T S r) (m_row T S r) (k + 1) = false from by show m_pM T (m_days T S r) (m_row T S r) (k + 1) = _; show (m_pM T (m_days T S r) (m_row T S r) k || (decide (h_s (m_days T S r) k < t_a T (1 * 12 + k)) || (decide (t_a T (1 * 12 + k) < h_s (m_days T S r) k) && decide (0 < m_pI T (m_days T S r) (m_row T S r) k k)))) = _; rw [decide_eq_false (Int32.not_lt.mpr c62), decide_eq_false (Int32.not_lt.mpr c66), Bool.and_false, Bool.or_false, Bool.or_false]; exact b2z.mp (hm.symm.trans c67))).symm⟩)
                  · skip
                    replace c68 := of_decide_eq_false c68
                    exact absurd rfl c68
              · skip
                replace c66 := of_decide_eq_false c66
                refine Pv.aload rfl rfl ?_
                refine Pv.getR (v := .ref 80) rfl rfl (GW.at (a := 69) (k := 27) (b := 80) hx50 (by decide)) ?_
                refine Pv.iload rfl rfl ?_
                refine Pv.dup2 rfl ?_
                refine Pv.ald (z := (m_pI T (m_days T S r) (m_row T S r) k) k) rfl (by rw [i_toNat (by omega)]; exact h80 _ (by omega)) ?_
                refine Pv.lit rfl ?_
                refine Pv.bin (z := ((m_pI T (m_days T S r) (m_row T S r) k) k) - 1) rfl (rfl) ?_
                refine Pv.astk (k := k) (z := ((m_pI T (m_days T S r) (m_row T S r) k) k) - 1) rfl (i_toNat (by omega)) (rfl) ?_
                refine Pv.iload rfl rfl ?_
                refine Pv.if0 rfl (fun c69 => ?_) (fun c69 => ?_)
                · skip
                  replace c69 : decide (b = 0) = false := by simpa using c69
                  replace c69 := of_decide_eq_false c69
                  refine Pv.lit rfl ?_
                  refine Pv.goto rfl ?_
                  refine Pv.istore (lo' := [some (.ref 69), some (.int (Int32.ofNat (r + 1))), some (.int 1), some (.int (Int32.ofNat k)), some (.int ((m_pI T (m_days T S r) (m_row T S r) k) k))]) rfl rfl ?_
                  refine Pv.iinc (y := Int32.ofNat (k + 1)) (lo' := [some (.ref 69), some (.int (Int32.ofNat (r + 1))), some (.int 1), some (.int (Int32.ofNat (k + 1))), some (.int ((m_pI T (m_days T S r) (m_row T S r) k) k))]) rfl rfl (i_add k 1) rfl ?_
                  refine Pv.goto rfl ?_
                  exact ih48 (k + 1, 1, (fp G3 80 k (((m_pI T (m_days T S r) (m_row T S r) k) k) - 1)), (some (.int ((m_pI T (m_days T S r) (m_row T S r) k) k)))) (⟨by omega, (RTP.pr rt), (XS.up80 hxs b3), (fp_ne (Or.inl (by decide))).trans (h28), ((h80).up).eq ((if_neg (Int32.not_lt.mpr c62)).trans (if_pos ⟨Int32.not_le.mp c63, Int32.not_le.mp c66⟩)).symm, (congrArg b2i (show m_pM T (m_days T S r) (m_row T S r) (k + 1) = true from by show m_pM T (m_days T S r) (m_row T S r) (k + 1) = _; show (m_pM T (m_days T S r) (m_row T S r) k || (decide (h_s (m_days T S r) k < t_a T (1 * 12 + k)) || (decide (t_a T (1 * 12 + k) < h_s (m_days T S r) k) && decide (0 < m_pI T (m_days T S r) (m_row T S r) k k)))) = _; rw [decide_eq_false (Int32.not_lt.mpr c62), decide_eq_true (Int32.not_le.mp c63), decide_eq_true (Int32.not_le.mp c66), Bool.true_and, Bool.or_true, Bool.or_true])).symm⟩)
                · skip
                  replace c69 : decide (b = 0) = true := by simpa using c69
                  replace c69 := of_decide_eq_true c69
                  refine Pv.aload rfl rfl ?_
                  refine Pv.getR (v := .ref 80) rfl rfl (GW.at (a := 69) (k := 27) (b := 80) hx50 (by decide)) ?_
                  refine Pv.iload rfl rfl ?_
                  refine Pv.ald (z := ((m_pI T (m_days T S r) (m_row T S r) k) k) - 1) rfl (by rw [i_toNat (by omega)]; exact fp_eq) ?_
                  refine Pv.iload rfl rfl ?_
                  refine Pv.icmp rfl (fun c70 => ?_) (fun c70 => ?_)
                  · skip
                    replace c70 := of_decide_eq_true c70
                    exact absurd c70 (i_ne2 _)
                  · skip
                    replace c70 := of_decide_eq_false c70
                    refine Pv.lit rfl ?_
                    refine Pv.goto rfl ?_
                    refine Pv.istore (lo' := [some (.ref 69), some (.int (Int32.ofNat (r + 1))), some (.int 1), some (.int (Int32.ofNat k)), some (.int ((m_pI T (m_days T S r) (m_row T S r) k) k))]) rfl rfl ?_
                    refine Pv.iinc (y := Int32.ofNat (k + 1)) (lo' := [some (.ref 69), some (.int (Int32.ofNat (r + 1))), some (.int 1), some (.int (Int32.ofNat (k + 1))), some (.int ((m_pI T (m_days T S r) (m_row T S r) k) k))]) rfl rfl (i_add k 1) rfl ?_
                    refine Pv.goto rfl ?_
                    exact ih48 (k + 1, 1, (fp G3 80 k (((m_pI T (m_days T S r) (m_row T S r) k) k) - 1)), (some (.int ((m_pI T (m_days T S r) (m_row T S r) k) k)))) (⟨by omega, (RTP.pr rt), (XS.up80 hxs b3), (fp_ne (Or.inl (by decide))).trans (h28), ((h80).up).eq ((if_neg (Int32.not_lt.mpr c62)).trans (if_pos ⟨Int32.not_le.mp c63, Int32.not_le.mp c66⟩)).symm, (congrArg b2i (show m_pM T (m_days T S r) (m_row T S r) (k + 1) = true from by show m_pM T (m_days T S r) (m_row T S r) (k + 1) = _; show (m_pM T (m_days T S r) (m_row T S r) k || (decide (h_s (m_days T S r) k < t_a T (1 * 12 + k)) || (decide (t_a T (1 * 12 + k) < h_s (m_days T S r) k) && decide (0 < m_pI T (m_days T S r) (m_row T S r) k k)))) = _; rw [decide_eq_false (Int32.not_lt.mpr c62), decide_eq_true (Int32.not_le.mp c63), decide_eq_true (Int32.not_le.mp c66), Bool.true_and, Bool.or_true, Bool.or_true])).symm⟩)
          · skip
            replace c62 := of_decide_eq_false c62
            refine Pv.aload rfl rfl ?_
            refine Pv.getR (v := .ref 80) rfl rfl (GW.at (a := 69) (k := 27) (b := 80) hx50 (by decide)) ?_
            refine Pv.iload rfl rfl ?_
            refine Pv.dup2 rfl ?_
            refine Pv.ald (z := (m_pI T (m_days T S r) (m_row T S r) k) k) rfl (by rw [i_toNat (by omega)]; exact h80 _ (by omega)) ?_
            refine Pv.lit rfl ?_
            refine Pv.bin (z := ((m_pI T (m_days T S r) (m_row T S r) k) k) + 1) rfl (rfl) ?_
            refine Pv.astk (k := k) (z := ((m_pI T (m_days T S r) (m_row T S r) k) k) + 1) rfl (i_toNat (by omega)) (rfl) ?_
            refine Pv.goto rfl ?_
            refine Pv.iload rfl rfl ?_
            refine Pv.if0 rfl (fun c71 => ?_) (fun c71 => ?_)
            · skip
              replace c71 : decide (b = 0) = false := by simpa using c71
              replace c71 := of_decide_eq_false c71
              refine Pv.lit rfl ?_
              refine Pv.goto rfl ?_
              refine Pv.istore (lo' := [some (.ref 69), some (.int (Int32.ofNat (r + 1))), some (.int 1), some (.int (Int32.ofNat k)), some (.int ((m_pI T (m_days T S r) (m_row T S r) k) k))]) rfl rfl ?_
              refine Pv.iinc (y := Int32.ofNat (k + 1)) (lo' := [some (.ref 69), some (.int (Int32.ofNat (r + 1))), some (.int 1), some (.int (Int32.ofNat (k + 1))), some (.int ((m_pI T (m_days T S r) (m_row T S r) k) k))]) rfl rfl (i_add k 1) rfl ?_
              refine Pv.goto rfl ?_
              exact ih48 (k + 1, 1, (fp G3 80 k (((m_pI T (m_days T S r) (m_row T S r) k) k) + 1)), (some (.int ((m_pI T (m_days T S r) (m_row T S r) k) k)))) (⟨by omega, (RTP.pr rt), (XS.up80 hxs b3), (fp_ne (Or.inl (by decide))).trans (h28), ((h80).up).eq (if_pos (Int32.not_le.mp c62)).symm, (congrArg b2i (show m_pM T (m_days T S r) (m_row T S r) (k + 1) = true from by show m_pM T (m_days T S r) (m_row T S r) (k + 1) = _; show (m_pM T (m_days T S r) (m_row T S r) k || (decide (h_s (m_days T S r) k < t_a T (1 * 12 + k)) || (decide (t_a T (1 * 12 + k) < h_s (m_days T S r) k) && decide (0 < m_pI T (m_days T S r) (m_row T S r) k k)))) = _; rw [decide_eq_true (Int32.not_le.mp c62), Bool.true_or, Bool.or_true])).symm⟩)
            · skip
              replace c71 : decide (b = 0) = true := by simpa using c71
              replace c71 := of_decide_eq_true c71
              refine Pv.aload rfl rfl ?_
              refine Pv.getR (v := .ref 80) rfl rfl (GW.at (a := 69) (k := 27) (b := 80) hx50 (by decide)) ?_
              refine Pv.iload rfl rfl ?_
              refine Pv.ald (z := ((m_pI T (m_days T S r) (m_row T S r) k) k) + 1) rfl (by rw [i_toNat (by omega)]; exact fp_eq) ?_
              refine Pv.iload rfl rfl ?_
              refine Pv.icmp rfl (fun c72 => ?_) (fun c72 => ?_)
              · skip
                replace c72 := of_decide_eq_true c72
                exact absurd c72 (i_ne1 _)
              · skip
                replace c72 := of_decide_eq_false c72
                refine Pv.lit rfl ?_
                refine Pv.goto rfl ?_
                refine Pv.istore (lo' := [some (.ref 69), some (.int (Int32.ofNat (r + 1))), some (.int 1), some (.int (Int32.ofNat k)), some (.int ((m_pI T (m_days T S r) (m_row T S r) k) k))]) rfl rfl ?_
                refine Pv.iinc (y := Int32.ofNat (k + 1)) (lo' := [some (.ref 69), some (.int (Int32.ofNat (r + 1))), some (.int 1), some (.int (Int32.ofNat (k + 1))), some (.int ((m_pI T (m_days T S r) (m_row T S r) k) k))]) rfl rfl (i_add k 1) rfl ?_
                refine Pv.goto rfl ?_
                exact ih48 (k + 1, 1, (fp G3 80 k (((m_pI T (m_days T S r) (m_row T S r) k) k) + 1)), (some (.int ((m_pI T (m_days T S r) (m_row T S r) k) k)))) (⟨by omega, (RTP.pr rt), (XS.up80 hxs b3), (fp_ne (Or.inl (by decide))).trans (h28), ((h80).up).eq (if_pos (Int32.not_le.mp c62)).symm, (congrArg b2i (show m_pM T (m_days T S r) (m_row T S r) (k + 1) = true from by show m_pM T (m_days T S r) (m_row T S r) (k + 1) = _; show (m_pM T (m_days T S r) (m_row T S r) k || (decide (h_s (m_days T S r) k < t_a T (1 * 12 + k)) || (decide (t_a T (1 * 12 + k) < h_s (m_days T S r) k) && decide (0 < m_pI T (m_days T S r) (m_row T S r) k k)))) = _; rw [decide_eq_true (Int32.not_le.mp c62), Bool.true_or, Bool.or_true])).symm⟩)
  · skip
    replace c8 := mt (i_le (a := 12) (b := k) (by omega) (by omega)).mpr (of_decide_eq_false c8)
    refine Pv.aload rfl rfl ?_
    refine Pv.getR (v := .ref 80) rfl rfl (GW.at (a := 69) (k := 27) (b := 80) hx6 (by decide)) ?_
    refine Pv.iload rfl rfl ?_
    refine Pv.lit rfl ?_
    refine Pv.astk (k := k) (z := 5) rfl (i_toNat (by omega)) (rfl) ?_
    refine Pv.iinc (y := Int32.ofNat (k + 1)) (lo' := [some (.ref 69), some (.int (Int32.ofNat (k + 1))), none, none, none]) rfl rfl (i_add k 1) rfl ?_
    refine Pv.goto rfl ?_
    exact ih4 (k + 1, (fp G 80 k 5)) (⟨by omega, (RDP.pr rt), (fp_ne (Or.inl (by decide))).trans (h28), (h80).ext rfl⟩)
set_option maxRecDepth 100000 in
set_option maxHeartbeats 4000000 in
theorem g_whyHoard {F : FW} {m k : Nat} {n : Int32} {S : Sh} (hS : XS F m S) (hG : GW F) (hk : k < 12) : Pm Z_X11_whyHoard [.ref 69, .int (Int32.ofNat k), .int n] F (fun r F' => r = some (.int (m_why 0 S k n)) ∧ F' = F) := by
  refine Pm.of fun N => ?_
  obtain ⟨Q, hQ⟩ : ∃ Q : Option Value → FW → Prop, Q = (fun r F' => r = some (.int (m_why 0 S k n)) ∧ F' = F) := ⟨_, rfl⟩
  rw [← hQ]
  refine (show Pv (ab_T L_X11_whyHoard) N 0 [some (.ref 69), some (.int (Int32.ofNat k)), some (.int n)] [] F Q from ?_)
  refine Pv.aload rfl rfl ?_
  refine Pv.getR (v := .ref 71) rfl rfl (GW.at (a := 69) (k := 6) (b := 71) hG (by decide)) ?_
  refine Pv.lit rfl ?_
  refine Pv.iload rfl rfl ?_
  refine Pv.bin (z := Int32.ofNat (124 + k)) rfl (i_add 124 k) ?_
  refine Pv.ald (z := h_s S k) rfl (by rw [i_toNat (by omega)]; exact hS.s _ (by omega)) ?_
  refine Pv.iload rfl rfl ?_
  refine Pv.icmp rfl (fun c1 => ?_) (fun c1 => ?_)
  · skip
    replace c1 := of_decide_eq_true c1
    refine Pv.lit rfl ?_
    exact Pv.ret rfl (by rw [hQ]; exact ⟨by show _ = some (Value.int (if h_s S k < n then 1 else 0)); rw [if_neg (Int32.not_lt.mpr c1)], rfl⟩)
  · skip
    replace c1 := of_decide_eq_false c1
    refine Pv.lit rfl ?_
    refine Pv.goto rfl ?_
    exact Pv.ret rfl (by rw [hQ]; exact ⟨by show _ = some (Value.int (if h_s S k < n then 1 else 0)); rw [if_pos (Int32.not_le.mp c1)], rfl⟩)
set_option maxRecDepth 100000 in
set_option maxHeartbeats 4000000 in
theorem g_whyBare {F : FW} {m k : Nat} {n : Int32} {S : Sh} (hS : XS F m S) (hG : GW F) (hk : k < 12) : Pm Z_X11_whyBare [.ref 69, .int (Int32.ofNat k), .int n] F (fun r F' => r = some (.int (m_why 1 S k n)) ∧ F' = F) := by
  refine Pm.of fun N => ?_
  obtain ⟨Q, hQ⟩ : ∃ Q : Option Value → FW → Prop, Q = (fun r F' => r = some (.int (m_why 1 S k n)) ∧ F' = F) := ⟨_, rfl⟩
  rw [← hQ]
  refine (show Pv (ab_T L_X11_whyBare) N 0 [some (.ref 69), some (.int (Int32.ofNat k)), some (.int n)] [] F Q from ?_)
  refine Pv.aload rfl rfl ?_
  refine Pv.getR (v := .ref 71) rfl rfl (GW.at (a := 69) (k := 6) (b := 71) hG (by decide)) ?_
  refine Pv.lit rfl ?_
  refine Pv.iload rfl rfl ?_
  refine Pv.bin (z := Int32.ofNat (136 + k)) rfl (i_add 136 k) ?_
  refine Pv.ald (z := h_h S k) rfl (by rw [i_toNat (by omega)]; exact hS.h _ (by omega)) ?_
  refine Pv.iload rfl rfl ?_
  refine Pv.icmp rfl (fun c1 => ?_) (fun c1 => ?_)
  · skip
    replace c1 := of_decide_eq_true c1
    refine Pv.aload rfl rfl ?_
    refine Pv.getR (v := .ref 71) rfl rfl (GW.at (a := 69) (k := 6) (b := 71) hG (by decide)) ?_
    refine Pv.lit rfl ?_
    refine Pv.iload rfl rfl ?_
    refine Pv.bin (z := Int32.ofNat (124 + k)) rfl (i_add 124 k) ?_
    refine Pv.ald (z := h_s S k) rfl (by rw [i_toNat (by omega)]; exact hS.s _ (by omega)) ?_
    refine Pv.iload rfl rfl ?_
    refine Pv.bin (z := (h_s S k) + n) rfl (rfl) ?_
    refine Pv.lit rfl ?_
    refine Pv.icmp rfl (fun c2 => ?_) (fun c2 => ?_)
    · skip
      replace c2 := of_decide_eq_true c2
      refine Pv.lit rfl ?_
      exact Pv.ret rfl (by rw [hQ]; exact ⟨by show _ = some (Value.int (if h_h S k < n then 1 else if 999 < h_s S k + n then 2 else 0)); rw [if_neg (Int32.not_lt.mpr c1), if_neg (Int32.not_lt.mpr c2)], rfl⟩)
    · skip
      replace c2 := of_decide_eq_false c2
      refine Pv.lit rfl ?_
      refine Pv.goto rfl ?_
      exact Pv.ret rfl (by rw [hQ]; exact ⟨by show _ = some (Value.int (if h_h S k < n then 1 else if 999 < h_s S k + n then 2 else 0)); rw [if_neg (Int32.not_lt.mpr c1), if_pos (Int32.not_le.mp c2)], rfl⟩)
  · skip
    replace c1 := of_decide_eq_false c1
    refine Pv.lit rfl ?_
    refine Pv.goto rfl ?_
    exact Pv.ret rfl (by rw [hQ]; exact ⟨by show _ = some (Value.int (if h_h S k < n then 1 else if 999 < h_s S k + n then 2 else 0)); rw [if_pos (Int32.not_le.mp c1)], rfl⟩)
set_option maxRecDepth 100000 in
set_option maxHeartbeats 4000000 in
theorem g_hoards {F : FW} {m k : Nat} {n : Int32} {S : Sh} (hS : XS F m S) (hG : GW F) (hk : k < 12) : Pm Z_X11_hoards [.ref 69, .int (Int32.ofNat k), .int n] F (fun r F' => r = none ∧ F' = fp (fp F 71 (124 + k) (h_s S k - n)) 71 (136 + k) (h_h S k + n)) := by
  refine Pm.of fun N => ?_
  obtain ⟨Q, hQ⟩ : ∃ Q : Option Value → FW → Prop, Q = (fun r F' => r = none ∧ F' = fp (fp F 71 (124 + k) (h_s S k - n)) 71 (136 + k) (h_h S k + n)) := ⟨_, rfl⟩
  rw [← hQ]
  refine (show Pv (ab_T L_X11_hoards) N 0 [some (.ref 69), some (.int (Int32.ofNat k)), some (.int n)] [] F Q from ?_)
  refine Pv.aload rfl rfl ?_
  refine Pv.getR (v := .ref 71) rfl rfl (GW.at (a := 69) (k := 6) (b := 71) hG (by decide)) ?_
  refine Pv.lit rfl ?_
  refine Pv.iload rfl rfl ?_
  refine Pv.bin (z := Int32.ofNat (124 + k)) rfl (i_add 124 k) ?_
  refine Pv.dup2 rfl ?_
  refine Pv.ald (z := h_s S k) rfl (by rw [i_toNat (by omega)]; exact hS.s _ (by omega)) ?_
  refine Pv.iload rfl rfl ?_
  refine Pv.bin (z := (h_s S k) - n) rfl (rfl) ?_
  refine Pv.astk (k := 124 + k) (z := (h_s S k) - n) rfl (i_toNat (by omega)) (rfl) ?_
  refine Pv.aload rfl rfl ?_
  refine Pv.getR (v := .ref 71) rfl rfl (GW.at (a := 69) (k := 6) (b := 71) hG (by decide)) ?_
  refine Pv.lit rfl ?_
  refine Pv.iload rfl rfl ?_
  refine Pv.bin (z := Int32.ofNat (136 + k)) rfl (i_add 136 k) ?_
  refine Pv.dup2 rfl ?_
  refine Pv.ald (z := h_h S k) rfl (by rw [i_toNat (by omega)]; exact (fp_ne (Or.inr (by omega))).trans (hS.h _ (by omega))) ?_
  refine Pv.iload rfl rfl ?_
  refine Pv.bin (z := (h_h S k) + n) rfl (rfl) ?_
  refine Pv.astk (k := 136 + k) (z := (h_h S k) + n) rfl (i_toNat (by omega)) (rfl) ?_
  exact Pv.vret rfl (by rw [hQ]; exact ⟨rfl, rfl⟩)
set_option maxRecDepth 100000 in
set_option maxHeartbeats 4000000 in
theorem g_draw {F : FW} {x : Int32} {n : Nat} (hx : F.1 69 29 = x) (hn : 0 < n) (hn2 : n < 1000) : Pm Z_X11_draw [.ref 69, .int (Int32.ofNat n)] F (fun r F' => r = some (.int (Int32.ofNat (dr (m_nx x) n))) ∧ F' = fp F 69 29 (m_nx x)) := by
  refine Pm.of fun N => ?_
  obtain ⟨Q, hQ⟩ : ∃ Q : Option Value → FW → Prop, Q = (fun r F' => r = some (.int (Int32.ofNat (dr (m_nx x) n))) ∧ F' = fp F 69 29 (m_nx x)) := ⟨_, rfl⟩
  rw [← hQ]
  refine (show Pv (ab_T L_X11_draw) N 0 [some (.ref 69), some (.int (Int32.ofNat n))] [] F Q from ?_)
  refine Pv.aload rfl rfl ?_
  refine Pv.aload rfl rfl ?_
  refine Pv.getI (z := x) rfl rfl (hx) ?_
  refine Pv.lit rfl ?_
  refine Pv.bin (z := x * 1103515245) rfl (rfl) ?_
  refine Pv.lit rfl ?_
  refine Pv.bin (z := m_nx x) rfl (rfl) ?_
  refine Pv.putI rfl rfl ?_
  refine Pv.aload rfl rfl ?_
  refine Pv.getI (z := m_nx x) rfl rfl (fp_eq) ?_
  refine Pv.lit rfl ?_
  refine Pv.bin (z := m_ush (m_nx x)) rfl (rfl) ?_
  refine Pv.iload rfl rfl ?_
  refine Pv.irem (z := Int32.ofNat (dr (m_nx x) n)) rfl (dr_rem hn hn2) ?_
  exact Pv.ret rfl (by rw [hQ]; exact ⟨rfl, rfl⟩)
set_option maxRecDepth 100000 in
set_option maxHeartbeats 4000000 in
theorem g_drawsDay {F : FW} {T : St} {S : Sh} (hT : XT F T) (hS : XS F (t_m T) S) (hG : GW F) (hTB : TBB T) (hI : INV T S) {x : Int32} (hx : F.1 69 29 = x) (hg : 0 < t_g T) (hD : h_d S < 400) : Pm Z_X11_drawsDay [.ref 69] F (fun r F' => r = none ∧ RXS F F' ∧ XS F' (t_m T) (m_d1 T S x) ∧ F'.1 69 29 = m_d2 T S x) := by
  refine Pm.of fun N => ?_
  obtain ⟨Q, hQ⟩ : ∃ Q : Option Value → FW → Prop, Q = (fun r F' => r = none ∧ RXS F F' ∧ XS F' (t_m T) (m_d1 T S x) ∧ F'.1 69 29 = m_d2 T S x) := ⟨_, rfl⟩
  rw [← hQ]
  have b3 := hT.mb
  have b4 := hT.nb
  have b5 := hT.gb
  have b6 := m_from_lt S
  have b7 := hS.db
  have d0 : dr (m_nx x) 6 < 6 := Nat.mod_lt _ (by decide)
  refine (show Pv (ab_T (L_X11_drawsDay Z_X11_draw Z_X11_cell Z_X11_whyHoard Z_X11_hoards Z_X11_whyBare Z_X11_day)) N 0 [some (.ref 69), none, none, none, none] [] F Q from ?_)
  refine Pv.aload rfl rfl ?_
  refine Pv.lit rfl ?_
  refine Pv.callVI (as := [.ref 69, .int 6]) (rest := []) (z := Int32.ofNat (dr (m_nx x) 6)) rfl rfl rfl (g_draw (x := x) (n := 6) (hx) (by omega) (by omega)) ?_
  refine Pv.istore (lo' := [some (.ref 69), some (.int (Int32.ofNat (dr (m_nx x) 6))), none, none, none]) rfl rfl ?_
  have cut1 : ∀ (G : FW), RXS F G → XS G (t_m T) (m_dDs T S x) → G.1 69 29 = m_dDx T S x → ∀ (o1 o2 o3 o4 : Option Value), Pv (ab_T (L_X11_drawsDay Z_X11_draw Z_X11_cell Z_X11_whyHoard Z_X11_hoards Z_X11_whyBare Z_X11_day)) N 116 [some (.ref 69), o1, o2, o3, o4] [] G Q := by
    intro G rx hs hx o1 o2 o3 o4
    have hx2 := RXS.T rx hT
    have hx3 := RXS.G rx hG
    have e0 : h_d (m_dDs T S x) = h_d S := h_d_drawD
    have d4 : dr (m_nx (m_dDx T S x)) 90 < 90 := Nat.mod_lt _ (by decide)
    have cut4 : ∀ (K : FW), RXS F K → XS K (t_m T) (m_dXs T (m_dDs T S x) (m_dDx T S x)) → K.1 69 29 = m_d2 T S x → Pv (ab_T (L_X11_drawsDay Z_X11_draw Z_X11_cell Z_X11_whyHoard Z_X11_hoards Z_X11_whyBare Z_X11_day)) N 157 [some (.ref 69), o1, o2, o3, o4] [] K Q := by
      intro K rx2 hs2 hx2
      have hx5 := RXS.T rx2 hT
      have hx6 := RXS.G rx2 hG
      have e1 : h_d (m_dXs T (m_dDs T S x) (m_dDx T S x)) = h_d S := by rw [h_d_drawX, h_d_drawD]
      refine Pv.aload rfl rfl ?_
      refine Pv.callV (as := [.ref 69]) (rest := []) rfl rfl rfl (g_day hx5 hs2 hx6 hTB (INV.sb (INV_dX (INV_dD hI b5 hg))) (by omega)) ?_
      rintro _ G7 ⟨rfl, x8, hs9⟩
      refine (show Pv _ _ 161 [some (.ref 69), o1, o2, o3, o4] [] G7 Q from ?_)
      exact Pv.vret rfl (by rw [hQ]; exact ⟨rfl, RXS.rx rx2 x8, hs9, (x8.2.1 29 (by decide)).trans hx2⟩)
    refine Pv.aload rfl rfl ?_
    refine Pv.lit rfl ?_
    refine Pv.callVI (as := [.ref 69, .int 90]) (rest := []) (z := Int32.ofNat (dr (m_nx (m_dDx T S x)) 90)) rfl rfl rfl (g_draw (x := (m_dDx T S x)) (n := 90) (hx) (by omega) (by omega)) ?_
    refine Pv.if0 rfl (fun c10 => ?_) (fun c10 => ?_)
    · skip
      replace c10 : decide (Int32.ofNat (dr (m_nx (m_dDx T S x)) 90) = 0) = false := by simpa using c10
      replace c10 := mt (i_eq (a := dr (m_nx (m_dDx T S x)) 90) (b := 0) (by omega) (by omega)).mpr (of_decide_eq_false c10)
      exact cut4 (fp G 69 29 (m_nx (m_dDx T S x))) (RXS.sd rx (Or.inr rfl)) (by rw [dXs_n (fun q => c10 q.1)]; exact (XS.sd (a := 69) (k := 29) (v := (m_nx (m_dDx T S x))) hs b3 (by decide))) (by unfold m_d2; rw [dXx_n (fun q => c10 q.1)]; exact fp_eq)
    · skip
      replace c10 : decide (Int32.ofNat (dr (m_nx (m_dDx T S x)) 90) = 0) = true := by simpa using c10
      replace c10 := (i_eq (a := dr (m_nx (m_dDx T S x)) 90) (b := 0) (by omega) (by omega)).mp (of_decide_eq_true c10)
      refine Pv.aload rfl rfl ?_
      refine Pv.getR (v := .ref 71) rfl rfl (GW.at (a := 69) (k := 6) (b := 71) hx3 (by decide)) ?_
      refine Pv.lit rfl ?_
      refine Pv.ald (z := Int32.ofNat (t_m T)) rfl ((fp_ne (Or.inl (by decide))).trans (hx2.m)) ?_
      refine Pv.if0 rfl (fun c11 => ?_) (fun c11 => ?_)
      · skip
        replace c11 := (i_le (a := t_m T) (b := 0) (by omega) (by omega)).mp (of_decide_eq_true c11)
        exact cut4 (fp G 69 29 (m_nx (m_dDx T S x))) (RXS.sd rx (Or.inr rfl)) (by rw [dXs_n (fun q => absurd q.2 (by omega))]; exact (XS.sd (a := 69) (k := 29) (v := (m_nx (m_dDx T S x))) hs b3 (by decide))) (by unfold m_d2; rw [dXx_n (fun q => absurd q.2 (by omega))]; exact fp_eq)
      · skip
        replace c11 := mt (i_le (a := t_m T) (b := 0) (by omega) (by omega)).mpr (of_decide_eq_false c11)
        have d5 : dr (m_nx (m_nx (m_dDx T S x))) (t_m T) < t_m T := Nat.mod_lt _ (by omega)
        refine Pv.aload rfl rfl ?_
        refine Pv.getR (v := .ref 71) rfl rfl (GW.at (a := 69) (k := 6) (b := 71) hx3 (by decide)) ?_
        refine Pv.lit rfl ?_
        refine Pv.dup2 rfl ?_
        refine Pv.ald (z := G.1 71 180) rfl (fp_ne (Or.inl (by decide))) ?_
        refine Pv.lit rfl ?_
        refine Pv.aload rfl rfl ?_
        refine Pv.aload rfl rfl ?_
        refine Pv.getR (v := .ref 71) rfl rfl (GW.at (a := 69) (k := 6) (b := 71) hx3 (by decide)) ?_
        refine Pv.lit rfl ?_
        refine Pv.ald (z := Int32.ofNat (t_m T)) rfl ((fp_ne (Or.inl (by decide))).trans (hx2.m)) ?_
        refine Pv.callVI (as := [.ref 69, .int (Int32.ofNat (t_m T))]) (rest := [.int 1, .int (G.1 71 180), .int 180, .ref 71]) (z := Int32.ofNat (dr (m_nx (m_nx (m_dDx T S x))) (t_m T))) rfl rfl rfl (g_draw (x := m_nx (m_dDx T S x)) (n := t_m T) (fp_eq) (by omega) (by omega)) ?_
        refine Pv.bin (z := 1 <<< ((Int32.ofNat (dr (m_nx (m_nx (m_dDx T S x))) (t_m T))) &&& 31)) rfl (rfl) ?_
        refine Pv.bin (z := (G.1 71 180) ||| (1 <<< ((Int32.ofNat (dr (m_nx (m_nx (m_dDx T S x))) (t_m T))) &&& 31))) rfl (rfl) ?_
        refine Pv.astk (k := 180) (z := (G.1 71 180) ||| (1 <<< ((Int32.ofNat (dr (m_nx (m_nx (m_dDx T S x))) (t_m T))) &&& 31))) rfl (rfl) (rfl) ?_
        exact cut4 (fp (fp (fp G 69 29 (m_nx (m_dDx T S x))) 69 29 (m_nx (m_nx (m_dDx T S x)))) 71 180 ((G.1 71 180) ||| (1 <<< ((Int32.ofNat (dr (m_nx (m_nx (m_dDx T S x))) (t_m T))) &&& 31)))) (RXS.st (RXS.sd (RXS.sd rx (Or.inr rfl)) (Or.inr rfl)) (by omega) (by omega)) (by rw [dXs_y c10 (by omega)]; exact XS.die3b (XS.sd (a := 69) (k := 29) (v := (m_nx (m_nx (m_dDx T S x)))) (XS.sd (a := 69) (k := 29) (v := (m_nx (m_dDx T S x))) hs b3 (by decide)) b3 (by decide)) b3 (by omega) ((fp_ne (Or.inl (by decide))).trans (fp_ne (Or.inl (by decide))))) (by unfold m_d2; rw [dXx_y c10 (by omega)]; exact (fp_ne (Or.inl (by decide))).trans (fp_eq))
  refine Pv.iload rfl rfl ?_
  refine Pv.lit rfl ?_
  refine Pv.icmp rfl (fun c12 => ?_) (fun c12 => ?_)
  · skip
    replace c12 := (i_le (a := 3) (b := dr (m_nx x) 6) (by omega) (by omega)).mp (of_decide_eq_true c12)
    exact cut1 (fp F 69 29 (m_nx x)) (RXS.sd RXS.rf (Or.inr rfl)) (by rw [dDs_n (T := T) (S := S) (by omega)]; exact (XS.sd (a := 69) (k := 29) (v := (m_nx x)) hS b3 (by decide))) (by rw [dDx_n (T := T) (S := S) (by omega)]; exact fp_eq) (some (.int (Int32.ofNat (dr (m_nx x) 6)))) none none none
  · skip
    replace c12 := mt (i_le (a := 3) (b := dr (m_nx x) 6) (by omega) (by omega)).mpr (of_decide_eq_false c12)
    refine Pv.aload rfl rfl ?_
    refine Pv.aload rfl rfl ?_
    refine Pv.getR (v := .ref 71) rfl rfl (GW.at (a := 69) (k := 6) (b := 71) hG (by decide)) ?_
    refine Pv.lit rfl ?_
    refine Pv.ald (z := Int32.ofNat (t_g T)) rfl ((fp_ne (Or.inl (by decide))).trans (hT.g)) ?_
    refine Pv.callVI (as := [.ref 69, .int (Int32.ofNat (t_g T))]) (rest := []) (z := Int32.ofNat (dr (m_nx (m_nx x)) (t_g T))) rfl rfl rfl (g_draw (x := m_nx x) (n := t_g T) (fp_eq) (by omega) (by omega)) ?_
    refine Pv.istore (lo' := [some (.ref 69), some (.int (Int32.ofNat (dr (m_nx x) 6))), some (.int (Int32.ofNat (dr (m_nx (m_nx x)) (t_g T)))), none, none]) rfl rfl ?_
    refine Pv.iload rfl rfl ?_
    refine Pv.aload rfl rfl ?_
    refine Pv.lit rfl ?_
    refine Pv.callVI (as := [.ref 69, .int 2]) (rest := [.int (Int32.ofNat (dr (m_nx (m_nx x)) (t_g T)))]) (z := Int32.ofNat (dr (m_nx (m_nx (m_nx x))) 2)) rfl rfl rfl (g_draw (x := m_nx (m_nx x)) (n := 2) (fp_eq) (by omega) (by omega)) ?_
    refine Pv.callI (as := [.int (Int32.ofNat (dr (m_nx (m_nx x)) (t_g T))), .int (Int32.ofNat (dr (m_nx (m_nx (m_nx x))) 2))]) (rest := []) (z := Int32.ofNat (2 * (dr (m_nx (m_nx x)) (t_g T)) + (dr (m_nx (m_nx (m_nx x))) 2))) rfl rfl rfl (g_cell (g := dr (m_nx (m_nx x)) (t_g T)) (s := dr (m_nx (m_nx (m_nx x))) 2)) ?_
    refine Pv.istore (lo' := [some (.ref 69), some (.int (Int32.ofNat (dr (m_nx x) 6))), some (.int (Int32.ofNat (dr (m_nx (m_nx x)) (t_g T)))), some (.int (Int32.ofNat (2 * (dr (m_nx (m_nx x)) (t_g T)) + (dr (m_nx (m_nx (m_nx x))) 2)))), none]) rfl rfl ?_
    refine Pv.lit rfl ?_
    refine Pv.aload rfl rfl ?_
    refine Pv.lit rfl ?_
    refine Pv.callVI (as := [.ref 69, .int 20]) (rest := [.int 1]) (z := Int32.ofNat (dr (m_nx (m_nx (m_nx (m_nx x)))) 20)) rfl rfl rfl (g_draw (x := m_nx (m_nx (m_nx x))) (n := 20) (fp_eq) (by omega) (by omega)) ?_
    refine Pv.bin (z := Int32.ofNat (dr (m_nx (m_nx (m_nx (m_nx x)))) 20 + 1)) rfl ((i_add 1 (dr (m_nx (m_nx (m_nx (m_nx x)))) 20)).trans (congrArg Int32.ofNat (Nat.add_comm 1 _))) ?_
    refine Pv.istore (lo' := [some (.ref 69), some (.int (Int32.ofNat (dr (m_nx x) 6))), some (.int (Int32.ofNat (dr (m_nx (m_nx x)) (t_g T)))), some (.int (Int32.ofNat (2 * (dr (m_nx (m_nx x)) (t_g T)) + (dr (m_nx (m_nx (m_nx x))) 2)))), some (.int (Int32.ofNat (dr (m_nx (m_nx (m_nx (m_nx x)))) 20 + 1)))]) rfl rfl ?_
    have d1 : dr (m_nx (m_nx x)) (t_g T) < t_g T := Nat.mod_lt _ hg
    have d2 : dr (m_nx (m_nx (m_nx x))) 2 < 2 := Nat.mod_lt _ (by decide)
    have d3 : dr (m_nx (m_nx (m_nx (m_nx x)))) 20 < 20 := Nat.mod_lt _ (by decide)
    refine Pv.iload rfl rfl ?_
    refine Pv.if0 rfl (fun c13 => ?_) (fun c13 => ?_)
    · skip
      replace c13 : decide (Int32.ofNat (dr (m_nx x) 6) = 0) = false := by simpa using c13
      replace c13 := mt (i_eq (a := dr (m_nx x) 6) (b := 0) (by omega) (by omega)).mpr (of_decide_eq_false c13)
      refine Pv.iload rfl rfl ?_
      refine Pv.lit rfl ?_
      refine Pv.icmp rfl (fun c14 => ?_) (fun c14 => ?_)
      · skip
        replace c14 : decide (Int32.ofNat (dr (m_nx x) 6) = 1) = false := by simpa using c14
        replace c14 := mt (i_eq (a := dr (m_nx x) 6) (b := 1) (by omega) (by omega)).mpr (of_decide_eq_false c14)
        refine Pv.iload rfl rfl ?_
        refine Pv.lit rfl ?_
        refine Pv.icmp rfl (fun c15 => ?_) (fun c15 => ?_)
        · skip
          replace c15 : decide (Int32.ofNat (dr (m_nx x) 6) = 2) = false := by simpa using c15
          replace c15 := mt (i_eq (a := dr (m_nx x) 6) (b := 2) (by omega) (by omega)).mpr (of_decide_eq_false c15)
          omega
        · skip
          replace c15 : decide (Int32.ofNat (dr (m_nx x) 6) = 2) = true := by simpa using c15
          replace c15 := (i_eq (a := dr (m_nx x) 6) (b := 2) (by omega) (by omega)).mp (of_decide_eq_true c15)
          refine Pv.aload rfl rfl ?_
          refine Pv.iload rfl rfl ?_
          refine Pv.iload rfl rfl ?_
          refine Pv.callVI (as := [.ref 69, .int (Int32.ofNat (2 * (dr (m_nx (m_nx x)) (t_g T)) + (dr (m_nx (m_nx (m_nx x))) 2))), .int (Int32.ofNat (dr (m_nx (m_nx (m_nx (m_nx x)))) 20 + 1))]) (rest := []) (z := m_why 0 S (2 * (dr (m_nx (m_nx x)) (t_g T)) + (dr (m_nx (m_nx (m_nx x))) 2)) (Int32.ofNat (dr (m_nx (m_nx (m_nx (m_nx x)))) 20 + 1))) rfl rfl rfl (g_whyHoard (k := 2 * (dr (m_nx (m_nx x)) (t_g T)) + (dr (m_nx (m_nx (m_nx x))) 2)) (n := Int32.ofNat (dr (m_nx (m_nx (m_nx (m_nx x)))) 20 + 1)) (XS.sd (a := 69) (k := 29) (v := (m_nx (m_nx (m_nx (m_nx x))))) (XS.sd (a := 69) (k := 29) (v := (m_nx (m_nx (m_nx x)))) (XS.sd (a := 69) (k := 29) (v := (m_nx (m_nx x))) (XS.sd (a := 69) (k := 29) (v := (m_nx x)) hS b3 (by decide)) b3 (by decide)) b3 (by decide)) b3 (by decide)) (GW.fpp (a := 69) (k := 29) (v := (m_nx (m_nx (m_nx (m_nx x))))) (GW.fpp (a := 69) (k := 29) (v := (m_nx (m_nx (m_nx x)))) (GW.fpp (a := 69) (k := 29) (v := (m_nx (m_nx x))) (GW.fpp (a := 69) (k := 29) (v := (m_nx x)) hG)))) (by omega)) ?_
          refine Pv.if0 rfl (fun c16 => ?_) (fun c16 => ?_)
          · skip
            replace c16 : decide (m_why 0 S (2 * (dr (m_nx (m_nx x)) (t_g T)) + (dr (m_nx (m_nx (m_nx x))) 2)) (Int32.ofNat (dr (m_nx (m_nx (m_nx (m_nx x)))) 20 + 1)) = 0) = false := by simpa using c16
            replace c16 := of_decide_eq_false c16
            exact cut1 (fp (fp (fp (fp F 69 29 (m_nx x)) 69 29 (m_nx (m_nx x))) 69 29 (m_nx (m_nx (m_nx x)))) 69 29 (m_nx (m_nx (m_nx (m_nx x))))) (RXS.sd (RXS.sd (RXS.sd (RXS.sd RXS.rf (Or.inr rfl)) (Or.inr rfl)) (Or.inr rfl)) (Or.inr rfl)) (by rw [dDs_y (T := T) (S := S) (d := 2) (by omega) (by omega)]; rw [try_n (d := 2) c16]; exact (XS.sd (a := 69) (k := 29) (v := (m_nx (m_nx (m_nx (m_nx x))))) (XS.sd (a := 69) (k := 29) (v := (m_nx (m_nx (m_nx x)))) (XS.sd (a := 69) (k := 29) (v := (m_nx (m_nx x))) (XS.sd (a := 69) (k := 29) (v := (m_nx x)) hS b3 (by decide)) b3 (by decide)) b3 (by decide)) b3 (by decide))) (by rw [dDx_y (T := T) (S := S) (by omega)]; exact fp_eq) (some (.int (Int32.ofNat (dr (m_nx x) 6)))) (some (.int (Int32.ofNat (dr (m_nx (m_nx x)) (t_g T))))) (some (.int (Int32.ofNat (2 * (dr (m_nx (m_nx x)) (t_g T)) + (dr (m_nx (m_nx (m_nx x))) 2))))) (some (.int (Int32.ofNat (dr (m_nx (m_nx (m_nx (m_nx x)))) 20 + 1))))
          · skip
            replace c16 : decide (m_why 0 S (2 * (dr (m_nx (m_nx x)) (t_g T)) + (dr (m_nx (m_nx (m_nx x))) 2)) (Int32.ofNat (dr (m_nx (m_nx (m_nx (m_nx x)))) 20 + 1)) = 0) = true := by simpa using c16
            replace c16 := of_decide_eq_true c16
            refine Pv.aload rfl rfl ?_
            refine Pv.getR (v := .ref 71) rfl rfl (GW.at (a := 69) (k := 6) (b := 71) hG (by decide)) ?_
            refine Pv.lit rfl ?_
            refine Pv.iload rfl rfl ?_
            refine Pv.bin (z := Int32.ofNat (124 + (2 * (dr (m_nx (m_nx x)) (t_g T)) + (dr (m_nx (m_nx (m_nx x))) 2)))) rfl (i_add 124 (2 * (dr (m_nx (m_nx x)) (t_g T)) + (dr (m_nx (m_nx (m_nx x))) 2))) ?_
            refine Pv.dup2 rfl ?_
            refine Pv.ald (z := h_s S (2 * (dr (m_nx (m_nx x)) (t_g T)) + (dr (m_nx (m_nx (m_nx x))) 2))) rfl (by rw [i_toNat (by omega)]; exact (fp_ne (Or.inl (by decide))).trans ((fp_ne (Or.inl (by decide))).trans ((fp_ne (Or.inl (by decide))).trans ((fp_ne (Or.inl (by decide))).trans (hS.s _ (by omega)))))) ?_
            refine Pv.iload rfl rfl ?_
            refine Pv.bin (z := (h_s S (2 * (dr (m_nx (m_nx x)) (t_g T)) + (dr (m_nx (m_nx (m_nx x))) 2))) - (Int32.ofNat (dr (m_nx (m_nx (m_nx (m_nx x)))) 20 + 1))) rfl (rfl) ?_
            refine Pv.astk (k := 124 + (2 * (dr (m_nx (m_nx x)) (t_g T)) + (dr (m_nx (m_nx (m_nx x))) 2))) (z := (h_s S (2 * (dr (m_nx (m_nx x)) (t_g T)) + (dr (m_nx (m_nx (m_nx x))) 2))) - (Int32.ofNat (dr (m_nx (m_nx (m_nx (m_nx x)))) 20 + 1))) rfl (i_toNat (by omega)) (rfl) ?_
            exact cut1 (fp (fp (fp (fp (fp F 69 29 (m_nx x)) 69 29 (m_nx (m_nx x))) 69 29 (m_nx (m_nx (m_nx x)))) 69 29 (m_nx (m_nx (m_nx (m_nx x))))) 71 (124 + (2 * (dr (m_nx (m_nx x)) (t_g T)) + (dr (m_nx (m_nx (m_nx x))) 2))) ((h_s S (2 * (dr (m_nx (m_nx x)) (t_g T)) + (dr (m_nx (m_nx (m_nx x))) 2))) - (Int32.ofNat (dr (m_nx (m_nx (m_nx (m_nx x)))) 20 + 1)))) (RXS.st (RXS.sd (RXS.sd (RXS.sd (RXS.sd RXS.rf (Or.inr rfl)) (Or.inr rfl)) (Or.inr rfl)) (Or.inr rfl)) (by omega) (by omega)) (by rw [dDs_y (T := T) (S := S) (d := 2) (by omega) (by omega)]; rw [try_y (d := 2) c16]; exact XS.do2 (XS.sd (a := 69) (k := 29) (v := (m_nx (m_nx (m_nx (m_nx x))))) (XS.sd (a := 69) (k := 29) (v := (m_nx (m_nx (m_nx x)))) (XS.sd (a := 69) (k := 29) (v := (m_nx (m_nx x))) (XS.sd (a := 69) (k := 29) (v := (m_nx x)) hS b3 (by decide)) b3 (by decide)) b3 (by decide)) b3 (by decide)) b3 (by omega)) (by rw [dDx_y (T := T) (S := S) (by omega)]; exact (fp_ne (Or.inl (by decide))).trans (fp_eq)) (some (.int (Int32.ofNat (dr (m_nx x) 6)))) (some (.int (Int32.ofNat (dr (m_nx (m_nx x)) (t_g T))))) (some (.int (Int32.ofNat (2 * (dr (m_nx (m_nx x)) (t_g T)) + (dr (m_nx (m_nx (m_nx x))) 2))))) (some (.int (Int32.ofNat (dr (m_nx (m_nx (m_nx (m_nx x)))) 20 + 1))))
      · skip
        replace c14 : decide (Int32.ofNat (dr (m_nx x) 6) = 1) = true := by simpa using c14
        replace c14 := (i_eq (a := dr (m_nx x) 6) (b := 1) (by omega) (by omega)).mp (of_decide_eq_true c14)
        refine Pv.aload rfl rfl ?_
        refine Pv.iload rfl rfl ?_
        refine Pv.iload rfl rfl ?_
        refine Pv.callVI (as := [.ref 69, .int (Int32.ofNat (2 * (dr (m_nx (m_nx x)) (t_g T)) + (dr (m_nx (m_nx (m_nx x))) 2))), .int (Int32.ofNat (dr (m_nx (m_nx (m_nx (m_nx x)))) 20 + 1))]) (rest := []) (z := m_why 1 S (2 * (dr (m_nx (m_nx x)) (t_g T)) + (dr (m_nx (m_nx (m_nx x))) 2)) (Int32.ofNat (dr (m_nx (m_nx (m_nx (m_nx x)))) 20 + 1))) rfl rfl rfl (g_whyBare (k := 2 * (dr (m_nx (m_nx x)) (t_g T)) + (dr (m_nx (m_nx (m_nx x))) 2)) (n := Int32.ofNat (dr (m_nx (m_nx (m_nx (m_nx x)))) 20 + 1)) (XS.sd (a := 69) (k := 29) (v := (m_nx (m_nx (m_nx (m_nx x))))) (XS.sd (a := 69) (k := 29) (v := (m_nx (m_nx (m_nx x)))) (XS.sd (a := 69) (k := 29) (v := (m_nx (m_nx x))) (XS.sd (a := 69) (k := 29) (v := (m_nx x)) hS b3 (by decide)) b3 (by decide)) b3 (by decide)) b3 (by decide)) (GW.fpp (a := 69) (k := 29) (v := (m_nx (m_nx (m_nx (m_nx x))))) (GW.fpp (a := 69) (k := 29) (v := (m_nx (m_nx (m_nx x)))) (GW.fpp (a := 69) (k := 29) (v := (m_nx (m_nx x))) (GW.fpp (a := 69) (k := 29) (v := (m_nx x)) hG)))) (by omega)) ?_
        refine Pv.if0 rfl (fun c17 => ?_) (fun c17 => ?_)
        · skip
          replace c17 : decide (m_why 1 S (2 * (dr (m_nx (m_nx x)) (t_g T)) + (dr (m_nx (m_nx (m_nx x))) 2)) (Int32.ofNat (dr (m_nx (m_nx (m_nx (m_nx x)))) 20 + 1)) = 0) = false := by simpa using c17
          replace c17 := of_decide_eq_false c17
          refine Pv.iload rfl rfl ?_
          refine Pv.lit rfl ?_
          refine Pv.icmp rfl (fun c18 => ?_) (fun c18 => ?_)
          · skip
            replace c18 : decide (Int32.ofNat (dr (m_nx x) 6) = 2) = false := by simpa using c18
            replace c18 := mt (i_eq (a := dr (m_nx x) 6) (b := 2) (by omega) (by omega)).mpr (of_decide_eq_false c18)
            exact cut1 (fp (fp (fp (fp F 69 29 (m_nx x)) 69 29 (m_nx (m_nx x))) 69 29 (m_nx (m_nx (m_nx x)))) 69 29 (m_nx (m_nx (m_nx (m_nx x))))) (RXS.sd (RXS.sd (RXS.sd (RXS.sd RXS.rf (Or.inr rfl)) (Or.inr rfl)) (Or.inr rfl)) (Or.inr rfl)) (by rw [dDs_y (T := T) (S := S) (d := 1) (by omega) (by omega)]; rw [try_n (d := 1) c17]; exact (XS.sd (a := 69) (k := 29) (v := (m_nx (m_nx (m_nx (m_nx x))))) (XS.sd (a := 69) (k := 29) (v := (m_nx (m_nx (m_nx x)))) (XS.sd (a := 69) (k := 29) (v := (m_nx (m_nx x))) (XS.sd (a := 69) (k := 29) (v := (m_nx x)) hS b3 (by decide)) b3 (by decide)) b3 (by decide)) b3 (by decide))) (by rw [dDx_y (T := T) (S := S) (by omega)]; exact fp_eq) (some (.int (Int32.ofNat (dr (m_nx x) 6)))) (some (.int (Int32.ofNat (dr (m_nx (m_nx x)) (t_g T))))) (some (.int (Int32.ofNat (2 * (dr (m_nx (m_nx x)) (t_g T)) + (dr (m_nx (m_nx (m_nx x))) 2))))) (some (.int (Int32.ofNat (dr (m_nx (m_nx (m_nx (m_nx x)))) 20 + 1))))
          · skip
            replace c18 : decide (Int32.ofNat (dr (m_nx x) 6) = 2) = true := by simpa using c18
            replace c18 := (i_eq (a := dr (m_nx x) 6) (b := 2) (by omega) (by omega)).mp (of_decide_eq_true c18)
            omega
        · skip
          replace c17 : decide (m_why 1 S (2 * (dr (m_nx (m_nx x)) (t_g T)) + (dr (m_nx (m_nx (m_nx x))) 2)) (Int32.ofNat (dr (m_nx (m_nx (m_nx (m_nx x)))) 20 + 1)) = 0) = true := by simpa using c17
          replace c17 := of_decide_eq_true c17
          refine Pv.aload rfl rfl ?_
          refine Pv.iload rfl rfl ?_
          refine Pv.iload rfl rfl ?_
          refine Pv.un (z := -(Int32.ofNat (dr (m_nx (m_nx (m_nx (m_nx x)))) 20 + 1))) rfl (rfl) ?_
          refine Pv.callVU (as := [.ref 69, .int (Int32.ofNat (2 * (dr (m_nx (m_nx x)) (t_g T)) + (dr (m_nx (m_nx (m_nx x))) 2))), .int (-(Int32.ofNat (dr (m_nx (m_nx (m_nx (m_nx x)))) 20 + 1)))]) (rest := []) rfl rfl rfl (g_hoards (k := 2 * (dr (m_nx (m_nx x)) (t_g T)) + (dr (m_nx (m_nx (m_nx x))) 2)) (n := -(Int32.ofNat (dr (m_nx (m_nx (m_nx (m_nx x)))) 20 + 1))) (XS.sd (a := 69) (k := 29) (v := (m_nx (m_nx (m_nx (m_nx x))))) (XS.sd (a := 69) (k := 29) (v := (m_nx (m_nx (m_nx x)))) (XS.sd (a := 69) (k := 29) (v := (m_nx (m_nx x))) (XS.sd (a := 69) (k := 29) (v := (m_nx x)) hS b3 (by decide)) b3 (by decide)) b3 (by decide)) b3 (by decide)) (GW.fpp (a := 69) (k := 29) (v := (m_nx (m_nx (m_nx (m_nx x))))) (GW.fpp (a := 69) (k := 29) (v := (m_nx (m_nx (m_nx x)))) (GW.fpp (a := 69) (k := 29) (v := (m_nx (m_nx x))) (GW.fpp (a := 69) (k := 29) (v := (m_nx x)) hG)))) (by omega)) ?_
          refine Pv.iload rfl rfl ?_
          refine Pv.lit rfl ?_
          refine Pv.icmp rfl (fun c19 => ?_) (fun c19 => ?_)
          · skip
            replace c19 : decide (Int32.ofNat (dr (m_nx x) 6) = 2) = false := by simpa using c19
            replace c19 := mt (i_eq (a := dr (m_nx x) 6) (b := 2) (by omega) (by omega)).mpr (of_decide_eq_false c19)
            exact cut1 (fp (fp (fp (fp (fp (fp F 69 29 (m_nx x)) 69 29 (m_nx (m_nx x))) 69 29 (m_nx (m_nx (m_nx x)))) 69 29 (m_nx (m_nx (m_nx (m_nx x))))) 71 (124 + (2 * (dr (m_nx (m_nx x)) (t_g T)) + (dr (m_nx (m_nx (m_nx x))) 2))) (h_s S (2 * (dr (m_nx (m_nx x)) (t_g T)) + (dr (m_nx (m_nx (m_nx x))) 2)) - (-(Int32.ofNat (dr (m_nx (m_nx (m_nx (m_nx x)))) 20 + 1))))) 71 (136 + (2 * (dr (m_nx (m_nx x)) (t_g T)) + (dr (m_nx (m_nx (m_nx x))) 2))) (h_h S (2 * (dr (m_nx (m_nx x)) (t_g T)) + (dr (m_nx (m_nx (m_nx x))) 2)) + (-(Int32.ofNat (dr (m_nx (m_nx (m_nx (m_nx x)))) 20 + 1))))) (RXS.st (RXS.st (RXS.sd (RXS.sd (RXS.sd (RXS.sd RXS.rf (Or.inr rfl)) (Or.inr rfl)) (Or.inr rfl)) (Or.inr rfl)) (by omega) (by omega)) (by omega) (by omega)) (by rw [dDs_y (T := T) (S := S) (d := 1) (by omega) (by omega)]; rw [try_y (d := 1) c17]; exact XS.do1 (XS.sd (a := 69) (k := 29) (v := (m_nx (m_nx (m_nx (m_nx x))))) (XS.sd (a := 69) (k := 29) (v := (m_nx (m_nx (m_nx x)))) (XS.sd (a := 69) (k := 29) (v := (m_nx (m_nx x))) (XS.sd (a := 69) (k := 29) (v := (m_nx x)) hS b3 (by decide)) b3 (by decide)) b3 (by decide)) b3 (by decide)) b3 (by omega)) (by rw [dDx_y (T := T) (S := S) (by omega)]; exact (fp_ne (Or.inl (by decide))).trans ((fp_ne (Or.inl (by decide))).trans (fp_eq))) (some (.int (Int32.ofNat (dr (m_nx x) 6)))) (some (.int (Int32.ofNat (dr (m_nx (m_nx x)) (t_g T))))) (some (.int (Int32.ofNat (2 * (dr (m_nx (m_nx x)) (t_g T)) + (dr (m_nx (m_nx (m_nx x))) 2))))) (some (.int (Int32.ofNat (dr (m_nx (m_nx (m_nx (m_nx x)))) 20 + 1))))
          · skip
            replace c19 : decide (Int32.ofNat (dr (m_nx x) 6) = 2) = true := by simpa using c19
            replace c19 := (i_eq (a := dr (m_nx x) 6) (b := 2) (by omega) (by omega)).mp (of_decide_eq_true c19)
            omega
    · skip
      replace c13 : decide (Int32.ofNat (dr (m_nx x) 6) = 0) = true := by simpa using c13
      replace c13 := (i_eq (a := dr (m_nx x) 6) (b := 0) (by omega) (by omega)).mp (of_decide_eq_true c13)
      refine Pv.aload rfl rfl ?_
      refine Pv.iload rfl rfl ?_
      refine Pv.iload rfl rfl ?_
      refine Pv.callVI (as := [.ref 69, .int (Int32.ofNat (2 * (dr (m_nx (m_nx x)) (t_g T)) + (dr (m_nx (m_nx (m_nx x))) 2))), .int (Int32.ofNat (dr (m_nx (m_nx (m_nx (m_nx x)))) 20 + 1))]) (rest := []) (z := m_why 0 S (2 * (dr (m_nx (m_nx x)) (t_g T)) + (dr (m_nx (m_nx (m_nx x))) 2)) (Int32.ofNat (dr (m_nx (m_nx (m_nx (m_nx x)))) 20 + 1))) rfl rfl rfl (g_whyHoard (k := 2 * (dr (m_nx (m_nx x)) (t_g T)) + (dr (m_nx (m_nx (m_nx x))) 2)) (n := Int32.ofNat (dr (m_nx (m_nx (m_nx (m_nx x)))) 20 + 1)) (XS.sd (a := 69) (k := 29) (v := (m_nx (m_nx (m_nx (m_nx x))))) (XS.sd (a := 69) (k := 29) (v := (m_nx (m_nx (m_nx x)))) (XS.sd (a := 69) (k := 29) (v := (m_nx (m_nx x))) (XS.sd (a := 69) (k := 29) (v := (m_nx x)) hS b3 (by decide)) b3 (by decide)) b3 (by decide)) b3 (by decide)) (GW.fpp (a := 69) (k := 29) (v := (m_nx (m_nx (m_nx (m_nx x))))) (GW.fpp (a := 69) (k := 29) (v := (m_nx (m_nx (m_nx x)))) (GW.fpp (a := 69) (k := 29) (v := (m_nx (m_nx x))) (GW.fpp (a := 69) (k := 29) (v := (m_nx x)) hG)))) (by omega)) ?_
      refine Pv.if0 rfl (fun c20 => ?_) (fun c20 => ?_)
      · skip
        replace c20 : decide (m_why 0 S (2 * (dr (m_nx (m_nx x)) (t_g T)) + (dr (m_nx (m_nx (m_nx x))) 2)) (Int32.ofNat (dr (m_nx (m_nx (m_nx (m_nx x)))) 20 + 1)) = 0) = false := by simpa using c20
        replace c20 := of_decide_eq_false c20
        refine Pv.iload rfl rfl ?_
        refine Pv.lit rfl ?_
        refine Pv.icmp rfl (fun c21 => ?_) (fun c21 => ?_)
        · skip
          replace c21 : decide (Int32.ofNat (dr (m_nx x) 6) = 1) = false := by simpa using c21
          replace c21 := mt (i_eq (a := dr (m_nx x) 6) (b := 1) (by omega) (by omega)).mpr (of_decide_eq_false c21)
          refine Pv.iload rfl rfl ?_
          refine Pv.lit rfl ?_
          refine Pv.icmp rfl (fun c22 => ?_) (fun c22 => ?_)
          · skip
            replace c22 : decide (Int32.ofNat (dr (m_nx x) 6) = 2) = false := by simpa using c22
            replace c22 := mt (i_eq (a := dr (m_nx x) 6) (b := 2) (by omega) (by omega)).mpr (of_decide_eq_false c22)
            exact cut1 (fp (fp (fp (fp F 69 29 (m_nx x)) 69 29 (m_nx (m_nx x))) 69 29 (m_nx (m_nx (m_nx x)))) 69 29 (m_nx (m_nx (m_nx (m_nx x))))) (RXS.sd (RXS.sd (RXS.sd (RXS.sd RXS.rf (Or.inr rfl)) (Or.inr rfl)) (Or.inr rfl)) (Or.inr rfl)) (by rw [dDs_y (T := T) (S := S) (d := 0) (by omega) (by omega)]; rw [try_n (d := 0) c20]; exact (XS.sd (a := 69) (k := 29) (v := (m_nx (m_nx (m_nx (m_nx x))))) (XS.sd (a := 69) (k := 29) (v := (m_nx (m_nx (m_nx x)))) (XS.sd (a := 69) (k := 29) (v := (m_nx (m_nx x))) (XS.sd (a := 69) (k := 29) (v := (m_nx x)) hS b3 (by decide)) b3 (by decide)) b3 (by decide)) b3 (by decide))) (by rw [dDx_y (T := T) (S := S) (by omega)]; exact fp_eq) (some (.int (Int32.ofNat (dr (m_nx x) 6)))) (some (.int (Int32.ofNat (dr (m_nx (m_nx x)) (t_g T))))) (some (.int (Int32.ofNat (2 * (dr (m_nx (m_nx x)) (t_g T)) + (dr (m_nx (m_nx (m_nx x))) 2))))) (some (.int (Int32.ofNat (dr (m_nx (m_nx (m_nx (m_nx x)))) 20 + 1))))
          · skip
            replace c22 : decide (Int32.ofNat (dr (m_nx x) 6) = 2) = true := by simpa using c22
            replace c22 := (i_eq (a := dr (m_nx x) 6) (b := 2) (by omega) (by omega)).mp (of_decide_eq_true c22)
            omega
        · skip
          replace c21 : decide (Int32.ofNat (dr (m_nx x) 6) = 1) = true := by simpa using c21
          replace c21 := (i_eq (a := dr (m_nx x) 6) (b := 1) (by omega) (by omega)).mp (of_decide_eq_true c21)
          omega
      · skip
        replace c20 : decide (m_why 0 S (2 * (dr (m_nx (m_nx x)) (t_g T)) + (dr (m_nx (m_nx (m_nx x))) 2)) (Int32.ofNat (dr (m_nx (m_nx (m_nx (m_nx x)))) 20 + 1)) = 0) = true := by simpa using c20
        replace c20 := of_decide_eq_true c20
        refine Pv.aload rfl rfl ?_
        refine Pv.iload rfl rfl ?_
        refine Pv.iload rfl rfl ?_
        refine Pv.callVU (as := [.ref 69, .int (Int32.ofNat (2 * (dr (m_nx (m_nx x)) (t_g T)) + (dr (m_nx (m_nx (m_nx x))) 2))), .int (Int32.ofNat (dr (m_nx (m_nx (m_nx (m_nx x)))) 20 + 1))]) (rest := []) rfl rfl rfl (g_hoards (k := 2 * (dr (m_nx (m_nx x)) (t_g T)) + (dr (m_nx (m_nx (m_nx x))) 2)) (n := Int32.ofNat (dr (m_nx (m_nx (m_nx (m_nx x)))) 20 + 1)) (XS.sd (a := 69) (k := 29) (v := (m_nx (m_nx (m_nx (m_nx x))))) (XS.sd (a := 69) (k := 29) (v := (m_nx (m_nx (m_nx x)))) (XS.sd (a := 69) (k := 29) (v := (m_nx (m_nx x))) (XS.sd (a := 69) (k := 29) (v := (m_nx x)) hS b3 (by decide)) b3 (by decide)) b3 (by decide)) b3 (by decide)) (GW.fpp (a := 69) (k := 29) (v := (m_nx (m_nx (m_nx (m_nx x))))) (GW.fpp (a := 69) (k := 29) (v := (m_nx (m_nx (m_nx x)))) (GW.fpp (a := 69) (k := 29) (v := (m_nx (m_nx x))) (GW.fpp (a := 69) (k := 29) (v := (m_nx x)) hG)))) (by omega)) ?_
        refine Pv.iload rfl rfl ?_
        refine Pv.lit rfl ?_
        refine Pv.icmp rfl (fun c23 => ?_) (fun c23 => ?_)
        · skip
          replace c23 : decide (Int32.ofNat (dr (m_nx x) 6) = 1) = false := by simpa using c23
          replace c23 := mt (i_eq (a := dr (m_nx x) 6) (b := 1) (by omega) (by omega)).mpr (of_decide_eq_false c23)
          refine Pv.iload rfl rfl ?_
          refine Pv.lit rfl ?_
          refine Pv.icmp rfl (fun c24 => ?_) (fun c24 => ?_)
          · skip
            replace c24 : decide (Int32.ofNat (dr (m_nx x) 6) = 2) = false := by simpa using c24
            replace c24 := mt (i_eq (a := dr (m_nx x) 6) (b := 2) (by omega) (by omega)).mpr (of_decide_eq_false c24)
            exact cut1 (fp (fp (fp (fp (fp (fp F 69 29 (m_nx x)) 69 29 (m_nx (m_nx x))) 69 29 (m_nx (m_nx (m_nx x)))) 69 29 (m_nx (m_nx (m_nx (m_nx x))))) 71 (124 + (2 * (dr (m_nx (m_nx x)) (t_g T)) + (dr (m_nx (m_nx (m_nx x))) 2))) (h_s S (2 * (dr (m_nx (m_nx x)) (t_g T)) + (dr (m_nx (m_nx (m_nx x))) 2)) - (Int32.ofNat (dr (m_nx (m_nx (m_nx (m_nx x)))) 20 + 1)))) 71 (136 + (2 * (dr (m_nx (m_nx x)) (t_g T)) + (dr (m_nx (m_nx (m_nx x))) 2))) (h_h S (2 * (dr (m_nx (m_nx x)) (t_g T)) + (dr (m_nx (m_nx (m_nx x))) 2)) + (Int32.ofNat (dr (m_nx (m_nx (m_nx (m_nx x)))) 20 + 1)))) (RXS.st (RXS.st (RXS.sd (RXS.sd (RXS.sd (RXS.sd RXS.rf (Or.inr rfl)) (Or.inr rfl)) (Or.inr rfl)) (Or.inr rfl)) (by omega) (by omega)) (by omega) (by omega)) (by rw [dDs_y (T := T) (S := S) (d := 0) (by omega) (by omega)]; rw [try_y (d := 0) c20]; exact XS.do0 (XS.sd (a := 69) (k := 29) (v := (m_nx (m_nx (m_nx (m_nx x))))) (XS.sd (a := 69) (k := 29) (v := (m_nx (m_nx (m_nx x)))) (XS.sd (a := 69) (k := 29) (v := (m_nx (m_nx x))) (XS.sd (a := 69) (k := 29) (v := (m_nx x)) hS b3 (by decide)) b3 (by decide)) b3 (by decide)) b3 (by decide)) b3 (by omega)) (by rw [dDx_y (T := T) (S := S) (by omega)]; exact (fp_ne (Or.inl (by decide))).trans ((fp_ne (Or.inl (by decide))).trans (fp_eq))) (some (.int (Int32.ofNat (dr (m_nx x) 6)))) (some (.int (Int32.ofNat (dr (m_nx (m_nx x)) (t_g T))))) (some (.int (Int32.ofNat (2 * (dr (m_nx (m_nx x)) (t_g T)) + (dr (m_nx (m_nx (m_nx x))) 2))))) (some (.int (Int32.ofNat (dr (m_nx (m_nx (m_nx (m_nx x)))) 20 + 1))))
          · skip
            replace c24 : decide (Int32.ofNat (dr (m_nx x) 6) = 2) = true := by simpa using c24
            replace c24 := (i_eq (a := dr (m_nx x) 6) (b := 2) (by omega) (by omega)).mp (of_decide_eq_true c24)
            omega
        · skip
          replace c23 : decide (Int32.ofNat (dr (m_nx x) 6) = 1) = true := by simpa using c23
          replace c23 := (i_eq (a := dr (m_nx x) 6) (b := 1) (by omega) (by omega)).mp (of_decide_eq_true c23)
          omega
set_option maxRecDepth 100000 in
set_option maxHeartbeats 4000000 in
theorem g_draws {F : FW} {n : Nat} {T : St} {S : Sh} (hT : XT F T) (hS : XS F (t_m T) S) (hG : GW F) (hTB : TBB T) (hI : INV T S) (x : Int32) (hg : 0 < t_g T) (hn : n < 1000) : Pm Z_X11_draws [.ref 69, .int (Int32.ofNat n), .int x] F (fun r F' => r = some (.int (Int32.ofNat (h_d (m_drawn T (S, x) n).1 - h_d S))) ∧ RXS F F' ∧ XS F' (t_m T) (m_drawn T (S, x) n).1 ∧ F'.1 69 29 = (m_drawn T (S, x) n).2) := by
  refine Pm.of fun N => ?_
  obtain ⟨Q, hQ⟩ : ∃ Q : Option Value → FW → Prop, Q = (fun r F' => r = some (.int (Int32.ofNat (h_d (m_drawn T (S, x) n).1 - h_d S))) ∧ RXS F F' ∧ XS F' (t_m T) (m_drawn T (S, x) n).1 ∧ F'.1 69 29 = (m_drawn T (S, x) n).2) := ⟨_, rfl⟩
  rw [← hQ]
  have b3 := hT.mb
  have b4 := hT.nb
  have b5 := hT.gb
  have b6 := m_from_lt S
  have b7 := hS.db
  refine (show Pv (ab_T (L_X11_draws Z_X11_drawsDay)) N 0 [some (.ref 69), some (.int (Int32.ofNat n)), some (.int x), none] [] F Q from ?_)
  refine Pv.aload rfl rfl ?_
  refine Pv.iload rfl rfl ?_
  refine Pv.putI rfl rfl ?_
  refine Pv.lit rfl ?_
  refine Pv.istore (lo' := [some (.ref 69), some (.int (Int32.ofNat n)), some (.int x), some (.int 0)]) rfl rfl ?_
  refine Pv.lp (ι := Nat × FW) (lof := fun ⟨k, G⟩ => [some (.ref 69), some (.int (Int32.ofNat n)), some (.int x), some (.int (Int32.ofNat k))]) (Ff := fun ⟨k, G⟩ => G) (P := fun ⟨k, G⟩ => (k ≤ n) ∧ (RXS F G) ∧ (XS G (t_m T) (m_drawn T (S, x) k).1) ∧ (G.1 69 29 = (m_drawn T (S, x) k).2) ∧ (h_d (m_drawn T (S, x) k).1 = h_d S + k)) ?_ (0, (fp F 69 29 x)) (⟨Nat.zero_le _, (RXS.sd RXS.rf (Or.inr rfl)), (XS.sd hS b3 (by decide)), fp_eq, rfl⟩)
  rintro N1 hN2 ⟨k, G⟩ hi3 ih4
  refine (show Pv _ _ 7 [some (.ref 69), some (.int (Int32.ofNat n)), some (.int x), some (.int (Int32.ofNat k))] [] G Q from ?_)
  obtain ⟨hk, rx, hA, hx0, hkd⟩ := hi3
  have hx5 := RXS.T rx hT
  have hx6 := RXS.G rx hG
  have bD := XS.db hA
  refine Pv.iloadS rfl rfl ?_
  refine Pv.iload rfl rfl ?_
  refine Pv.icmp rfl (fun c7 => ?_) (fun c7 => ?_)
  · skip
    replace c7 := (i_le (a := n) (b := k) (by omega) (by omega)).mp (of_decide_eq_true c7)
    refine Pv.iload rfl rfl ?_
    exact Pv.ret rfl (by rw [hQ]; exact ⟨congrArg (fun z => some (Value.int (Int32.ofNat z))) (show k = h_d (m_drawn T (S, x) n).1 - h_d S by rw [show n = k by omega]; omega), rx, by rw [show n = k by omega]; exact hA, by rw [show n = k by omega]; exact hx0⟩)
  · skip
    replace c7 := mt (i_le (a := n) (b := k) (by omega) (by omega)).mpr (of_decide_eq_false c7)
    refine Pv.aload rfl rfl ?_
    refine Pv.getR (v := .ref 71) rfl rfl (GW.at (a := 69) (k := 6) (b := 71) hx6 (by decide)) ?_
    refine Pv.lit rfl ?_
    refine Pv.ald (z := Int32.ofNat (h_d (m_drawn T (S, x) k).1)) rfl (hA.d) ?_
    refine Pv.lit rfl ?_
    refine Pv.icmp rfl (fun c8 => ?_) (fun c8 => ?_)
    · skip
      replace c8 := (i_le (a := 400) (b := h_d (m_drawn T (S, x) k).1) (by omega) (by omega)).mp (of_decide_eq_true c8)
      refine Pv.iload rfl rfl ?_
      exact Pv.ret rfl (by rw [hQ]; exact ⟨congrArg (fun z => some (Value.int (Int32.ofNat z))) (show k = h_d (m_drawn T (S, x) n).1 - h_d S by rw [drawn_e (T := T) (q := (S, x)) (k := k) (n := n) (by omega) (by omega)]; omega), rx, by rw [drawn_e (T := T) (q := (S, x)) (k := k) (n := n) (by omega) (by omega)]; exact hA, by rw [drawn_e (T := T) (q := (S, x)) (k := k) (n := n) (by omega) (by omega)]; exact hx0⟩)
    · skip
      replace c8 := mt (i_le (a := 400) (b := h_d (m_drawn T (S, x) k).1) (by omega) (by omega)).mpr (of_decide_eq_false c8)
      refine Pv.aload rfl rfl ?_
      refine Pv.callV (as := [.ref 69]) (rest := []) rfl rfl rfl (g_drawsDay hx5 hA hx6 hTB (INV_drawn (q := (S, x)) hTB b5 hg hI k) hx0 hg (by omega)) ?_
      rintro _ G9 ⟨rfl, x10, hs11, y12⟩
      have rx13 := RXS.tr rx x10
      refine (show Pv _ _ 29 [some (.ref 69), some (.int (Int32.ofNat n)), some (.int x), some (.int (Int32.ofNat k))] [] G9 Q from ?_)
      refine Pv.iinc (y := Int32.ofNat (k + 1)) (lo' := [some (.ref 69), some (.int (Int32.ofNat n)), some (.int x), some (.int (Int32.ofNat (k + 1)))]) rfl rfl (i_add k 1) rfl ?_
      refine Pv.goto rfl ?_
      exact ih4 (k + 1, G9) (⟨by omega, rx13, by rw [drawn_1 (by omega)]; exact hs11, by rw [drawn_2 (by omega)]; exact y12, by rw [drawn_1 (by omega)]; rw [h_d_1]; omega⟩)
set_option maxRecDepth 100000 in
set_option maxHeartbeats 4000000 in
theorem q_odds {F : FW} {T : St} {S : Sh} (hT : XT F T) (hS : XS F (t_m T) S) (hG : GW F) (hTB : TBB T) (hI : INV T S) (x y z : Int32) : Pm Z_X11_odds [.ref 69, .int x, .int y, .int z] F (fun r F' => r = some (.int (a_odds T S x y z)) ∧ RDR F F') := by
  refine Pm.of fun N => ?_
  obtain ⟨Q, hQ⟩ : ∃ Q : Option Value → FW → Prop, Q = (fun r F' => r = some (.int (a_odds T S x y z)) ∧ RDR F F') := ⟨_, rfl⟩
  rw [← hQ]
  have b3 := hT.mb
  have b4 := hT.nb
  have b5 := hT.gb
  have b6 := m_from_lt S
  have b7 := hS.db
  have hSB := hI.sb
  refine (show Pv (ab_T (L_X11_odds Z_X11_isMan Z_X11_isIn Z_X11_tries Z_X11_draws Z_X11_back)) N 0 [some (.ref 69), some (.int x), some (.int y), some (.int z), none, none, none] [] F Q from ?_)
  refine Pv.aload rfl rfl ?_
  refine Pv.lit rfl ?_
  refine Pv.putI rfl rfl ?_
  refine Pv.aload rfl rfl ?_
  refine Pv.iload rfl rfl ?_
  refine Pv.callVI (as := [.ref 69, .int x]) (rest := []) (z := b2i (nd (t_m T) x).isSome) rfl rfl rfl (q_isMan (hT.fx (P := fun q => q = 69) (((FX.rf (P := fun q => q = 69))).fp rfl) (by decide)) (hG.fx (P := fun _ => True) (((FX.rf (P := fun _ => True))).fp trivial)) x) ?_
  refine Pv.if0 rfl (fun c1 => ?_) (fun c1 => ?_)
  · skip
    replace c1 := of_decide_eq_true c1
    replace c1 := b2z.mp c1
    refine Pv.lit rfl ?_
    exact Pv.ret rfl (by rw [hQ]; exact ⟨by unfold a_odds; rw [nd_f c1], (RDR.rf).fp (Or.inl rfl)⟩)
  · skip
    replace c1 := of_decide_eq_false c1
    replace c1 := b2n.mp c1
    obtain ⟨m, hm, hml, rfl⟩ := nd_t c1
    refine Pv.iload rfl rfl ?_
    refine Pv.lit rfl ?_
    refine Pv.lit rfl ?_
    refine Pv.callI (as := [.int y, .int 1, .int 30]) (rest := []) (z := b2i (decide (1 ≤ y) && decide (y ≤ 30))) rfl rfl rfl (q_isIn y 1 30) ?_
    refine Pv.if0 rfl (fun c2 => ?_) (fun c2 => ?_)
    · skip
      replace c2 := of_decide_eq_true c2
      replace c2 := b2z.mp c2
      refine Pv.lit rfl ?_
      exact Pv.ret rfl (by rw [hQ]; exact ⟨by unfold a_odds; rw [hm]; dsimp only; rw [ndr_f ((ndr_in (a := 1) (b := 30) (by omega) (by omega)).symm.trans c2)], (RDR.rf).fp (Or.inl rfl)⟩)
    · skip
      replace c2 := of_decide_eq_false c2
      replace c2 := b2n.mp c2
      obtain ⟨n, hn, hna, hnb, rfl⟩ := ndr_t ((ndr_in (a := 1) (b := 30) (by omega) (by omega)).symm.trans c2)
      refine Pv.aload rfl rfl ?_
      refine Pv.getR (v := .ref 71) rfl rfl (GW.at (a := 69) (k := 6) (b := 71) hG (by decide)) ?_
      refine Pv.lit rfl ?_
      refine Pv.ald (z := Int32.ofNat (t_g T)) rfl ((fp_ne (Or.inl (by decide))).trans (hT.g)) ?_
      refine Pv.if0 rfl (fun c3 => ?_) (fun c3 => ?_)
      · skip
        replace c3 : decide (Int32.ofNat (t_g T) = 0) = false := by simpa using c3
        replace c3 := mt (i_eq (a := t_g T) (b := 0) (by omega) (by omega)).mpr (of_decide_eq_false c3)
        refine Pv.aload rfl rfl ?_
        refine Pv.callV (as := [.ref 69]) (rest := []) rfl rfl rfl (g_tries (hG.fx (P := fun _ => True) (((FX.rf (P := fun _ => True))).fp trivial))) ?_
        rintro _ G4 ⟨rfl, x5, y6⟩
        have rt7 := RT.of ((RDR.rf).fp (Or.inl rfl)) x5 y6
        have hs8 := RT.ofS ((RDR.rf).fp (Or.inl rfl)) x5 b3 hS
        have hr0 := RDR.t78 ((RDR.rf).fp (Or.inl rfl)) x5
        have hx9 := RT.T rt7 hT
        have hx10 := RT.G rt7 hG
        refine (show Pv _ _ 38 [some (.ref 69), some (.int (Int32.ofNat m)), some (.int (Int32.ofNat n)), some (.int z), none, none, none] [] G4 Q from ?_)
        refine Pv.lit rfl ?_
        refine Pv.istore (lo' := [some (.ref 69), some (.int (Int32.ofNat m)), some (.int (Int32.ofNat n)), some (.int z), some (.int 0), none, none]) rfl rfl ?_
        refine Pv.lit rfl ?_
        refine Pv.istore (lo' := [some (.ref 69), some (.int (Int32.ofNat m)), some (.int (Int32.ofNat n)), some (.int z), some (.int 0), some (.int 0), none]) rfl rfl ?_
        refine Pv.lp (ι := Nat × Int32 × FW × (Option Value)) (lof := fun ⟨k, b, G, o11⟩ => [some (.ref 69), some (.int (Int32.ofNat m)), some (.int (Int32.ofNat n)), some (.int z), some (.int b), some (.int (Int32.ofNat k)), o11]) (Ff := fun ⟨k, b, G, o11⟩ => G) (P := fun ⟨k, b, G, o11⟩ => (k ≤ n) ∧ (RT F G) ∧ (XS G (t_m T) S) ∧ (b = m_cnt (fun i => decide (h_t S m < h_t (m_drawn T (S, z + Int32.ofNat i) 20).1 m)) k) ∧ (RDR F G)) ?_ (0, 0, G4, none) (⟨Nat.zero_le _, rt7, hs8, rfl, hr0⟩)
        rintro N12 hN13 ⟨k, b, G, o11⟩ hi14 ih15
        refine (show Pv _ _ 44 [some (.ref 69), some (.int (Int32.ofNat m)), some (.int (Int32.ofNat n)), some (.int z), some (.int b), some (.int (Int32.ofNat k)), o11] [] G Q from ?_)
        obtain ⟨hk, rt, hxs, hb, hr⟩ := hi14
        have hx16 := RT.T rt hT
        have hx17 := RT.G rt hG
        refine Pv.iloadS rfl rfl ?_
        refine Pv.iload rfl rfl ?_
        refine Pv.icmp rfl (fun c18 => ?_) (fun c18 => ?_)
        · skip
          replace c18 := (i_le (a := n) (b := k) (by omega) (by omega)).mp (of_decide_eq_true c18)
          refine Pv.iload rfl rfl ?_
          exact Pv.ret rfl (by rw [hQ]; exact ⟨by unfold a_odds; rw [hm]; dsimp only; rw [hn]; dsimp only; rw [if_neg (by omega), hb, show k = n by omega], hr⟩)
        · skip
          replace c18 := mt (i_le (a := n) (b := k) (by omega) (by omega)).mpr (of_decide_eq_false c18)
          refine Pv.aload rfl rfl ?_
          refine Pv.getR (v := .ref 71) rfl rfl (GW.at (a := 69) (k := 6) (b := 71) hx17 (by decide)) ?_
          refine Pv.lit rfl ?_
          refine Pv.iload rfl rfl ?_
          refine Pv.bin (z := Int32.ofNat (181 + m)) rfl (i_add 181 m) ?_
          refine Pv.ald (z := h_t S m) rfl (by rw [i_toNat (by omega)]; exact hxs.t _ (by omega)) ?_
          refine Pv.istore (lo' := [some (.ref 69), some (.int (Int32.ofNat m)), some (.int (Int32.ofNat n)), some (.int z), some (.int b), some (.int (Int32.ofNat k)), some (.int (h_t S m))]) rfl rfl ?_
          refine Pv.aload rfl rfl ?_
          refine Pv.lit rfl ?_
          refine Pv.iload rfl rfl ?_
          refine Pv.iload rfl rfl ?_
          refine Pv.bin (z := z + (Int32.ofNat k)) rfl (rfl) ?_
          refine Pv.callV (as := [.ref 69, .int 20, .int (z + (Int32.ofNat k))]) (rest := []) rfl rfl rfl (g_draws (n := 20) hx16 hxs hx17 hTB hI (z + (Int32.ofNat k)) (by omega) (by omega)) ?_
          rintro _ G19 ⟨rfl, x20, hs21, y22⟩
          have rt23 := RT.rxs rt x20
          have hx24 := RT.T rt23 hT
          have hx25 := RT.G rt23 hG
          have bD26 := XS.db hs21
          refine (show Pv _ _ 72 [some (.ref 69), some (.int (Int32.ofNat m)), some (.int (Int32.ofNat n)), some (.int z), some (.int b), some (.int (Int32.ofNat k)), some (.int (h_t S m))] [.int (Int32.ofNat (h_d (m_drawn T (S, z + (Int32.ofNat k)) 20).1 - h_d S))] G19 Q from ?_)
          refine Pv.pop rfl ?_
          refine Pv.iload rfl rfl ?_
          refine Pv.aload rfl rfl ?_
          refine Pv.getR (v := .ref 71) rfl rfl (GW.at (a := 69) (k := 6) (b := 71) hx25 (by decide)) ?_
          refine Pv.lit rfl ?_
          refine Pv.iload rfl rfl ?_
          refine Pv.bin (z := Int32.ofNat (181 + m)) rfl (i_add 181 m) ?_
          refine Pv.ald (z := h_t (m_drawn T (S, z + (Int32.ofNat k)) 20).1 m) rfl (by rw [i_toNat (by omega)]; exact hs21.t _ (by omega)) ?_
          refine Pv.iload rfl rfl ?_
          refine Pv.icmp rfl (fun c27 => ?_) (fun c27 => ?_)
          · skip
            replace c27 := of_decide_eq_true c27
            refine Pv.lit rfl ?_
            refine Pv.bin (z := b + 0) rfl (rfl) ?_
            refine Pv.istore (lo' := [some (.ref 69), some (.int (Int32.ofNat m)), some (.int (Int32.ofNat n)), some (.int z), some (.int (b + 0)), some (.int (Int32.ofNat k)), some (.int (h_t S m))]) rfl rfl ?_
            refine Pv.aload rfl rfl ?_
            refine Pv.callV (as := [.ref 69]) (rest := []) rfl rfl rfl (g_back hx25) ?_
            rintro _ G28 ⟨rfl, x29, y30, z31⟩
            have rd32 := RT.bk rt23 x29 y30 z31
            have rt33 := RT.bkT rt23 x29 y30 z31
            refine (show Pv _ _ 102 [some (.ref 69), some (.int (Int32.ofNat m)), some (.int (Int32.ofNat n)), some (.int z), some (.int (b + 0)), some (.int (Int32.ofNat k)), some (.int (h_t S m))] [] G28 Q from ?_)
            refine Pv.iinc (y := Int32.ofNat (k + 1)) (lo' := [some (.ref 69), some (.int (Int32.ofNat m)), some (.int (Int32.ofNat n)), some (.int z), some (.int (b + 0)), some (.int (Int32.ofNat (k + 1))), some (.int (h_t S m))]) rfl rfl (i_add k 1) rfl ?_
            refine Pv.goto rfl ?_
            exact ih15 (k + 1, b + 0, G28, (some (.int (h_t S m)))) (⟨by omega, rt33, (RDR.S rd32 b3 hS), by rw [hb]; exact (Int32.add_zero _).trans (if_neg (fun q => absurd (of_decide_eq_true q) (Int32.not_lt.mpr c27))).symm, rd32⟩)
          · skip
            replace c27 := of_decide_eq_false c27
            refine Pv.lit rfl ?_
            refine Pv.goto rfl ?_
            refine Pv.bin (z := b + 1) rfl (rfl) ?_
            refine Pv.istore (lo' := [some (.ref 69), some (.int (Int32.ofNat m)), some (.int (Int32.ofNat n)), some (.int z), some (.int (b + 1)), some (.int (Int32.ofNat k)), some (.int (h_t S m))]) rfl rfl ?_
            refine Pv.aload rfl rfl ?_
            refine Pv.callV (as := [.ref 69]) (rest := []) rfl rfl rfl (g_back hx25) ?_
            rintro _ G34 ⟨rfl, x35, y36, z37⟩
            have rd38 := RT.bk rt23 x35 y36 z37
            have rt39 := RT.bkT rt23 x35 y36 z37
            refine (show Pv _ _ 102 [some (.ref 69), some (.int (Int32.ofNat m)), some (.int (Int32.ofNat n)), some (.int z), some (.int (b + 1)), some (.int (Int32.ofNat k)), some (.int (h_t S m))] [] G34 Q from ?_)
            refine Pv.iinc (y := Int32.ofNat (k + 1)) (lo' := [some (.ref 69), some (.int (Int32.ofNat m)), some (.int (Int32.ofNat n)), some (.int z), some (.int (b + 1)), some (.int (Int32.ofNat (k + 1))), some (.int (h_t S m))]) rfl rfl (i_add k 1) rfl ?_
            refine Pv.goto rfl ?_
            exact ih15 (k + 1, b + 1, G34, (some (.int (h_t S m)))) (⟨by omega, rt39, (RDR.S rd38 b3 hS), by rw [hb]; exact (if_pos (decide_eq_true (Int32.not_le.mp c27))).symm, rd38⟩)
      · skip
        replace c3 : decide (Int32.ofNat (t_g T) = 0) = true := by simpa using c3
        replace c3 := (i_eq (a := t_g T) (b := 0) (by omega) (by omega)).mp (of_decide_eq_true c3)
        refine Pv.lit rfl ?_
        exact Pv.ret rfl (by rw [hQ]; exact ⟨by unfold a_odds; rw [hm]; dsimp only; rw [hn]; dsimp only; rw [if_pos (by omega)], (RDR.rf).fp (Or.inl rfl)⟩)
set_option maxRecDepth 100000 in
set_option maxHeartbeats 4000000 in
theorem g_keep46 {F : FW} {m n : Nat} {S : Sh} {H : Nat → Sh} (hm : m ≤ 8) (hS : XS F m S) (hG : GW F) (hH : HSX F m n H) (hn : n < 8) (o : Option Value) (N : Nat) : Pv (ab_T L_X11_keep) N 46 [some (.ref 69), o] [] F (fun r F' => r = none ∧ FX (fun q => q = 77 ∨ q = 69) F F' ∧ (∀ j, F'.1 71 j = F.1 71 j) ∧ (∀ j, j ≠ 25 → F'.1 69 j = F.1 69 j) ∧ HSX F' m (n + 1) (fun j => if j < n then H j else S)) := by
  obtain ⟨Q, hQ⟩ : ∃ Q : Option Value → FW → Prop, Q = (fun r F' => r = none ∧ FX (fun q => q = 77 ∨ q = 69) F F' ∧ (∀ j, F'.1 71 j = F.1 71 j) ∧ (∀ j, j ≠ 25 → F'.1 69 j = F.1 69 j) ∧ HSX F' m (n + 1) (fun j => if j < n then H j else S)) := ⟨_, rfl⟩
  rw [← hQ]
  refine (show Pv (ab_T L_X11_keep) N 46 [some (.ref 69), o] [] F Q from ?_)
  refine Pv.lit rfl ?_
  refine Pv.istore (lo' := [some (.ref 69), some (.int 0)]) rfl rfl ?_
  refine Pv.lp (ι := Nat × FW) (lof := fun ⟨k, G⟩ => [some (.ref 69), some (.int (Int32.ofNat k))]) (Ff := fun ⟨k, G⟩ => G) (P := fun ⟨k, G⟩ => (k ≤ 133) ∧ (FX (fun q => q = 77 ∨ q = 69) F G) ∧ (G.1 69 25 = Int32.ofNat n) ∧ (∀ j, j < k → G.1 77 (133 * n + j) = F.1 71 (120 + j)) ∧ (∀ j, j < 133 * n → G.1 77 j = F.1 77 j) ∧ (∀ j, G.1 69 j = F.1 69 j)) ?_ (0, F) (⟨Nat.zero_le _, FX.rf, hH.1, fun j hj => absurd hj (Nat.not_lt_zero j), fun _ _ => rfl, fun _ => rfl⟩)
  rintro N1 hN2 ⟨k, G⟩ hi3 ih4
  refine (show Pv _ _ 48 [some (.ref 69), some (.int (Int32.ofNat k))] [] G Q from ?_)
  obtain ⟨hk, hxG, h25, hA, hB, hC⟩ := hi3
  have hx5 := hG.fx (P := fun q => q = 77 ∨ q = 69) hxG
  refine Pv.iloadS rfl rfl ?_
  refine Pv.lit rfl ?_
  refine Pv.icmp rfl (fun c6 => ?_) (fun c6 => ?_)
  · skip
    replace c6 := (i_le (a := 133) (b := k) (by omega) (by omega)).mp (of_decide_eq_true c6)
    refine Pv.aload rfl rfl ?_
    refine Pv.dup rfl ?_
    refine Pv.getI (z := Int32.ofNat n) rfl rfl (h25) ?_
    refine Pv.lit rfl ?_
    refine Pv.bin (z := Int32.ofNat (n + 1)) rfl (i_add n 1) ?_
    refine Pv.putI rfl rfl ?_
    refine Pv.vret rfl ?_
    rw [hQ]
    refine ⟨rfl, hxG.fp (Or.inr rfl), fun j => (fp_ne (Or.inl (by decide))).trans (hxG.1 71 j (by decide)), fun j c => (fp_ne (Or.inr c)).trans (hC j), fp_eq, by omega, fun j hj => ?_⟩
    dsimp only
    rcases Nat.lt_or_ge j n with q | q
    · rw [if_pos q]
      exact HSX.row hm (hH.2.2 j q) fun i hi => (fp_ne (Or.inl (by decide))).trans (hB _ (by omega))
    · rw [if_neg (by omega)]
      obtain rfl : j = n := by omega
      exact HSX.put hm hS fun i hi => (fp_ne (Or.inl (by decide))).trans (hA i (by omega))
  · skip
    replace c6 := mt (i_le (a := 133) (b := k) (by omega) (by omega)).mpr (of_decide_eq_false c6)
    refine Pv.aload rfl rfl ?_
    refine Pv.getR (v := .ref 77) rfl rfl (GW.at (a := 69) (k := 23) (b := 77) hx5 (by decide)) ?_
    refine Pv.lit rfl ?_
    refine Pv.aload rfl rfl ?_
    refine Pv.getI (z := Int32.ofNat n) rfl rfl (h25) ?_
    refine Pv.bin (z := Int32.ofNat (133 * n)) rfl (i_mul 133 n) ?_
    refine Pv.iload rfl rfl ?_
    refine Pv.bin (z := Int32.ofNat ((133 * n) + k)) rfl (i_add (133 * n) k) ?_
    refine Pv.aload rfl rfl ?_
    refine Pv.getR (v := .ref 71) rfl rfl (GW.at (a := 69) (k := 6) (b := 71) hx5 (by decide)) ?_
    refine Pv.lit rfl ?_
    refine Pv.iload rfl rfl ?_
    refine Pv.bin (z := Int32.ofNat (120 + k)) rfl (i_add 120 k) ?_
    refine Pv.ald (z := F.1 71 (120 + k)) rfl (by rw [i_toNat (by omega)]; exact hxG.1 71 _ (by decide)) ?_
    refine Pv.astk (k := (133 * n) + k) (z := F.1 71 (120 + k)) rfl (i_toNat (by omega)) (rfl) ?_
    refine Pv.iinc (y := Int32.ofNat (k + 1)) (lo' := [some (.ref 69), some (.int (Int32.ofNat (k + 1)))]) rfl rfl (i_add k 1) rfl ?_
    refine Pv.goto rfl ?_
    exact ih4 (k + 1, (fp G 77 ((133 * n) + k) (F.1 71 (120 + k)))) (⟨by omega, (hxG).fp (show 77 = 77 ∨ 77 = 69 by omega), (fp_ne (Or.inl (by decide))).trans (h25), fun j hj => Or.elim (Classical.em (j = k)) (fun e => by rw [e]; exact fp_eq) (fun e => (fp_ne (Or.inr (by omega))).trans (hA j (by omega))), fun j hj => (fp_ne (Or.inr (by omega))).trans (hB j hj), fun j => (fp_ne (Or.inl (by decide))).trans (hC j)⟩)
set_option maxRecDepth 100000 in
set_option maxHeartbeats 4000000 in
theorem g_keep {F : FW} {m n : Nat} {S : Sh} {H : Nat → Sh} (hm : m ≤ 8) (hS : XS F m S) (hG : GW F) (hH : HSX F m n H) : Pm Z_X11_keep [.ref 69] F (fun r F' => r = none ∧ FX (fun q => q = 77 ∨ q = 69) F F' ∧ (∀ j, F'.1 71 j = F.1 71 j) ∧ (∀ j, j ≠ 25 → F'.1 69 j = F.1 69 j) ∧ HSX F' m (m_kn n) (m_kH n H S)) := by
  refine Pm.of fun N => ?_
  obtain ⟨Q, hQ⟩ : ∃ Q : Option Value → FW → Prop, Q = (fun r F' => r = none ∧ FX (fun q => q = 77 ∨ q = 69) F F' ∧ (∀ j, F'.1 71 j = F.1 71 j) ∧ (∀ j, j ≠ 25 → F'.1 69 j = F.1 69 j) ∧ HSX F' m (m_kn n) (m_kH n H S)) := ⟨_, rfl⟩
  rw [← hQ]
  have h8 := hH.2.1
  refine (show Pv (ab_T L_X11_keep) N 0 [some (.ref 69), none] [] F Q from ?_)
  refine Pv.aload rfl rfl ?_
  refine Pv.getI (z := Int32.ofNat n) rfl rfl (hH.1) ?_
  refine Pv.lit rfl ?_
  refine Pv.icmp rfl (fun c1 => ?_) (fun c1 => ?_)
  · skip
    replace c1 : decide (Int32.ofNat n = 8) = false := by simpa using c1
    replace c1 := mt (i_eq (a := n) (b := 8) (by omega) (by omega)).mpr (of_decide_eq_false c1)
    refine (g_keep46 hm hS hG hH (by omega) none N).imp ?_
    rintro r F' ⟨e, x1, x2, x3, x4⟩
    rw [hQ]
    refine ⟨e, x1, x2, x3, ?_⟩
    unfold m_kn m_kH
    rw [if_pos (by omega)]
    rw [show (fun j => if n < 8 then (if j < n then H j else S) else if j < 7 then H (j + 1) else S) = fun j => if j < n then H j else S from funext fun j => if_pos (by omega)]
    exact x4
  · skip
    replace c1 : decide (Int32.ofNat n = 8) = true := by simpa using c1
    replace c1 := (i_eq (a := n) (b := 8) (by omega) (by omega)).mp (of_decide_eq_true c1)
    obtain rfl : n = 8 := by omega
    refine Pv.lit rfl ?_
    refine Pv.istore (lo' := [some (.ref 69), some (.int 0)]) rfl rfl ?_
    refine Pv.lp (ι := Nat × FW) (lof := fun ⟨k, G⟩ => [some (.ref 69), some (.int (Int32.ofNat k))]) (Ff := fun ⟨k, G⟩ => G) (P := fun ⟨k, G⟩ => (k ≤ 931) ∧ (FX (fun q => q = 77 ∨ q = 69) F G) ∧ (G.1 69 25 = Int32.ofNat 8) ∧ (∀ j, j < k → G.1 77 j = F.1 77 (j + 133)) ∧ (∀ j, k ≤ j → G.1 77 j = F.1 77 j) ∧ (∀ j, G.1 69 j = F.1 69 j)) ?_ (0, F) (⟨Nat.zero_le _, FX.rf, hH.1, fun j hj => absurd hj (Nat.not_lt_zero j), fun _ _ => rfl, fun _ => rfl⟩)
    rintro N2 hN3 ⟨k, G⟩ hi4 ih5
    refine (show Pv _ _ 11 [some (.ref 69), some (.int (Int32.ofNat k))] [] G Q from ?_)
    obtain ⟨hk, hxG, h25, hA, hB, hC⟩ := hi4
    have hx6 := hG.fx (P := fun q => q = 77 ∨ q = 69) hxG
    refine Pv.iloadS rfl rfl ?_
    refine Pv.lit rfl ?_
    refine Pv.icmp rfl (fun c7 => ?_) (fun c7 => ?_)
    · skip
      replace c7 := (i_le (a := 931) (b := k) (by omega) (by omega)).mp (of_decide_eq_true c7)
      refine Pv.aload rfl rfl ?_
      refine Pv.lit rfl ?_
      refine Pv.putI rfl rfl ?_
      have xg : FX (fun q => q = 77 ∨ q = 69) F (fp G 69 25 7) := hxG.fp (Or.inr rfl)
      have hHG : HSX (fp G 69 25 7) m 7 (fun j => H (j + 1)) := ⟨fp_eq, by omega, fun j hj => HSX.row hm (hH.2.2 (j + 1) (by omega)) fun i hi => (fp_ne (Or.inl (by decide))).trans ((hA _ (by omega)).trans (congrArg (F.1 77) (by omega)))⟩
      refine ((g_keep46 hm (hS.fx hm xg (by decide)) (hG.fx xg) hHG (by omega) _ N2).imp ?_)
      rintro r F' ⟨e, x1, x2, x3, x4⟩
      rw [hQ]
      exact ⟨e, xg.tr x1, fun j => (x2 j).trans (xg.1 71 j (by decide)), fun j c => (x3 j c).trans ((fp_ne (Or.inr c)).trans (hC j)), x4⟩
    · skip
      replace c7 := mt (i_le (a := 931) (b := k) (by omega) (by omega)).mpr (of_decide_eq_false c7)
      refine Pv.aload rfl rfl ?_
      refine Pv.getR (v := .ref 77) rfl rfl (GW.at (a := 69) (k := 23) (b := 77) hx6 (by decide)) ?_
      refine Pv.iload rfl rfl ?_
      refine Pv.aload rfl rfl ?_
      refine Pv.getR (v := .ref 77) rfl rfl (GW.at (a := 69) (k := 23) (b := 77) hx6 (by decide)) ?_
      refine Pv.iload rfl rfl ?_
      refine Pv.lit rfl ?_
      refine Pv.bin (z := Int32.ofNat (k + 133)) rfl (i_add k 133) ?_
      refine Pv.ald (z := F.1 77 (k + 133)) rfl (by rw [i_toNat (by omega)]; exact hB _ (by omega)) ?_
      refine Pv.astk (k := k) (z := F.1 77 (k + 133)) rfl (i_toNat (by omega)) (rfl) ?_
      refine Pv.iinc (y := Int32.ofNat (k + 1)) (lo' := [some (.ref 69), some (.int (Int32.ofNat (k + 1)))]) rfl rfl (i_add k 1) rfl ?_
      refine Pv.goto rfl ?_
      exact ih5 (k + 1, (fp G 77 k (F.1 77 (k + 133)))) (⟨by omega, (hxG).fp (show 77 = 77 ∨ 77 = 69 by omega), (fp_ne (Or.inl (by decide))).trans (h25), fun j hj => Or.elim (Classical.em (j = k)) (fun e => by rw [e]; exact fp_eq) (fun e => (fp_ne (Or.inr e)).trans (hA j (by omega))), fun j hj => (fp_ne (Or.inr (by omega))).trans (hB j (by omega)), fun j => (fp_ne (Or.inl (by decide))).trans (hC j)⟩)
set_option maxRecDepth 100000 in
set_option maxHeartbeats 4000000 in
theorem q_undo {F : FW} {T : St} {S : Sh} (hT : XT F T) (hS : XS F (t_m T) S) (hG : GW F) {n : Nat} {H : Nat → Sh} (hH : HSX F (t_m T) n H) : Pm Z_X11_undo [.ref 69] F (fun r F' => r = some (.int (if n = 0 then -1 else Int32.ofNat (n - 1))) ∧ RKX F F' ∧ HSX F' (t_m T) (n - 1) H ∧ XS F' (t_m T) (if n = 0 then S else H (n - 1))) := by
  refine Pm.of fun N => ?_
  obtain ⟨Q, hQ⟩ : ∃ Q : Option Value → FW → Prop, Q = (fun r F' => r = some (.int (if n = 0 then -1 else Int32.ofNat (n - 1))) ∧ RKX F F' ∧ HSX F' (t_m T) (n - 1) H ∧ XS F' (t_m T) (if n = 0 then S else H (n - 1))) := ⟨_, rfl⟩
  rw [← hQ]
  have b3 := hT.mb
  have b4 := hT.nb
  have b5 := hT.gb
  have b6 := m_from_lt S
  have b7 := hS.db
  have h8 := hH.2.1
  refine (show Pv (ab_T L_X11_undo) N 0 [some (.ref 69), none] [] F Q from ?_)
  refine Pv.aload rfl rfl ?_
  refine Pv.lit rfl ?_
  refine Pv.putI rfl rfl ?_
  refine Pv.aload rfl rfl ?_
  refine Pv.getI (z := Int32.ofNat n) rfl rfl ((fp_ne (Or.inr (by decide))).trans (hH.1)) ?_
  refine Pv.if0 rfl (fun c1 => ?_) (fun c1 => ?_)
  · skip
    replace c1 : decide (Int32.ofNat n = 0) = false := by simpa using c1
    replace c1 := mt (i_eq (a := n) (b := 0) (by omega) (by omega)).mpr (of_decide_eq_false c1)
    refine Pv.aload rfl rfl ?_
    refine Pv.dup rfl ?_
    refine Pv.getI (z := Int32.ofNat n) rfl rfl ((fp_ne (Or.inr (by decide))).trans (hH.1)) ?_
    refine Pv.lit rfl ?_
    refine Pv.bin (z := Int32.ofNat (n - 1)) rfl (i_subN (a := n) (b := 1) (by omega)) ?_
    refine Pv.putI rfl rfl ?_
    refine Pv.lit rfl ?_
    refine Pv.istore (lo' := [some (.ref 69), some (.int 0)]) rfl rfl ?_
    refine Pv.lp (ι := Nat × FW) (lof := fun ⟨k, G⟩ => [some (.ref 69), some (.int (Int32.ofNat k))]) (Ff := fun ⟨k, G⟩ => G) (P := fun ⟨k, G⟩ => (k ≤ 133) ∧ (FX (fun q => q = 69 ∨ q = 71) F G) ∧ (G.1 69 25 = Int32.ofNat (n - 1)) ∧ (∀ j, j < k → G.1 71 (120 + j) = F.1 77 (133 * (n - 1) + j)) ∧ (∀ j, j < 120 ∨ 253 ≤ j → G.1 71 j = F.1 71 j) ∧ (∀ j, j ≠ 0 → j ≠ 25 → G.1 69 j = F.1 69 j)) ?_ (0, (fp (fp F 69 0 0) 69 25 (Int32.ofNat (n - 1)))) (⟨Nat.zero_le _, (((FX.rf (P := fun q => q = 69 ∨ q = 71))).fp (Or.inl rfl)).fp (Or.inl rfl), fp_eq, fun j hj => absurd hj (Nat.not_lt_zero j), fun j _ => (fp_ne (Or.inl (by decide))).trans (fp_ne (Or.inl (by decide))), fun j h1 h2 => (fp_ne (Or.inr h2)).trans (fp_ne (Or.inr h1))⟩)
    rintro N2 hN3 ⟨k, G⟩ hi4 ih5
    refine (show Pv _ _ 26 [some (.ref 69), some (.int (Int32.ofNat k))] [] G Q from ?_)
    obtain ⟨hk, hxG, h25, hA, hB, hC⟩ := hi4
    have hx6 := hG.fx hxG
    refine Pv.iloadS rfl rfl ?_
    refine Pv.lit rfl ?_
    refine Pv.icmp rfl (fun c7 => ?_) (fun c7 => ?_)
    · skip
      replace c7 := (i_le (a := 133) (b := k) (by omega) (by omega)).mp (of_decide_eq_true c7)
      refine Pv.aload rfl rfl ?_
      refine Pv.getI (z := Int32.ofNat (n - 1)) rfl rfl (h25) ?_
      exact Pv.ret rfl (by rw [hQ]; exact ⟨by rw [if_neg (by omega)], ⟨hxG.wd (fun q c => c.elim Or.inl (fun e => Or.inr (Or.inl e))), fun j h1 h2 h3 h4 => hC j h1 h3, hB⟩, ⟨h25, by have := hH.2.1; omega, fun j hj => HSX.row b3 (hH.2.2 j (by omega)) fun i _ => hxG.1 77 _ (by decide)⟩, by rw [if_neg (by omega)]; exact HSX.get hH b3 (by omega) (fun q h1 h2 => (congrArg (G.1 71) (by omega)).trans ((hA (q - 120) (by omega)).trans (congrArg (F.1 77) (by omega))))⟩)
    · skip
      replace c7 := mt (i_le (a := 133) (b := k) (by omega) (by omega)).mpr (of_decide_eq_false c7)
      refine Pv.aload rfl rfl ?_
      refine Pv.getR (v := .ref 71) rfl rfl (GW.at (a := 69) (k := 6) (b := 71) hx6 (by decide)) ?_
      refine Pv.lit rfl ?_
      refine Pv.iload rfl rfl ?_
      refine Pv.bin (z := Int32.ofNat (120 + k)) rfl (i_add 120 k) ?_
      refine Pv.aload rfl rfl ?_
      refine Pv.getR (v := .ref 77) rfl rfl (GW.at (a := 69) (k := 23) (b := 77) hx6 (by decide)) ?_
      refine Pv.lit rfl ?_
      refine Pv.aload rfl rfl ?_
      refine Pv.getI (z := Int32.ofNat (n - 1)) rfl rfl (h25) ?_
      refine Pv.bin (z := Int32.ofNat (133 * (n - 1))) rfl (i_mul 133 (n - 1)) ?_
      refine Pv.iload rfl rfl ?_
      refine Pv.bin (z := Int32.ofNat ((133 * (n - 1)) + k)) rfl (i_add (133 * (n - 1)) k) ?_
      refine Pv.ald (z := F.1 77 ((133 * (n - 1)) + k)) rfl (by rw [i_toNat (by omega)]; exact hxG.1 77 _ (by decide)) ?_
      refine Pv.astk (k := 120 + k) (z := F.1 77 ((133 * (n - 1)) + k)) rfl (i_toNat (by omega)) (rfl) ?_
      refine Pv.iinc (y := Int32.ofNat (k + 1)) (lo' := [some (.ref 69), some (.int (Int32.ofNat (k + 1)))]) rfl rfl (i_add k 1) rfl ?_
      refine Pv.goto rfl ?_
      exact ih5 (k + 1, (fp G 71 (120 + k) (F.1 77 ((133 * (n - 1)) + k)))) (⟨by omega, hxG.fp (Or.inr rfl), (fp_ne (Or.inl (by decide))).trans h25, fun j hj => Or.elim (Classical.em (j = k)) (fun e => by rw [e]; exact fp_eq) (fun e => (fp_ne (Or.inr (by omega))).trans (hA j (by omega))), fun j hj => (fp_ne (Or.inr (by omega))).trans (hB j hj), fun j h1 h2 => (fp_ne (Or.inl (by decide))).trans (hC j h1 h2)⟩)
  · skip
    replace c1 : decide (Int32.ofNat n = 0) = true := by simpa using c1
    replace c1 := (i_eq (a := n) (b := 0) (by omega) (by omega)).mp (of_decide_eq_true c1)
    refine Pv.lit rfl ?_
    exact Pv.ret rfl (by rw [hQ]; exact ⟨by rw [if_pos (by omega)], RKX.fp RKX.rf (Or.inl rfl), HSX.same (by rw [show n - 1 = n by omega]; exact hH) b3 (fp_ne (Or.inr (by decide))) (fun k => fp_ne (Or.inl (by decide))), by rw [if_pos (by omega)]; exact XS.sd hS b3 (by decide)⟩)
set_option maxRecDepth 100000 in
set_option maxHeartbeats 4000000 in
theorem q_hoard {F : FW} {T : St} {S : Sh} (hT : XT F T) (hS : XS F (t_m T) S) (hG : GW F) {n : Nat} {H : Nat → Sh} (hH : HSX F (t_m T) n H) (x y z : Int32) : Pm Z_X11_hoard [.ref 69, .int x, .int y, .int z] F (fun r F' => r = some (.int (a_act 0 T S x y z)) ∧ RKX F F' ∧ HKX (decide (a_act 0 T S x y z = 0)) F' (t_m T) n H S ∧ XS F' (t_m T) (m_act 0 T S x y z)) := by
  refine Pm.of fun N => ?_
  obtain ⟨Q, hQ⟩ : ∃ Q : Option Value → FW → Prop, Q = (fun r F' => r = some (.int (a_act 0 T S x y z)) ∧ RKX F F' ∧ HKX (decide (a_act 0 T S x y z = 0)) F' (t_m T) n H S ∧ XS F' (t_m T) (m_act 0 T S x y z)) := ⟨_, rfl⟩
  rw [← hQ]
  have b3 := hT.mb
  have b4 := hT.nb
  have b5 := hT.gb
  have b6 := m_from_lt S
  have b7 := hS.db
  refine (show Pv (ab_T (L_X11_hoard Z_X11_isPlace Z_X11_isIn Z_X11_cell Z_X11_whyHoard Z_X11_keep Z_X11_hoards)) N 0 [some (.ref 69), some (.int x), some (.int y), some (.int z)] [] F Q from ?_)
  refine Pv.aload rfl rfl ?_
  refine Pv.lit rfl ?_
  refine Pv.putI rfl rfl ?_
  refine Pv.aload rfl rfl ?_
  refine Pv.iload rfl rfl ?_
  refine Pv.iload rfl rfl ?_
  refine Pv.callVI (as := [.ref 69, .int x, .int y]) (rest := []) (z := b2i ((nd (t_g T) x).isSome && (nd 2 y).isSome)) rfl rfl rfl (q_isPlace (hT.fx (P := fun q => q = 69) (((FX.rf (P := fun q => q = 69))).fp rfl) (by decide)) (hG.fx (P := fun _ => True) (((FX.rf (P := fun _ => True))).fp trivial)) x y) ?_
  refine Pv.if0 rfl (fun c1 => ?_) (fun c1 => ?_)
  · skip
    replace c1 := of_decide_eq_true c1
    replace c1 := b2z.mp c1
    refine Pv.lit rfl ?_
    have e : a_act 0 T S x y z = -1 := by unfold a_act; rw [aGS_f c1]
    exact Pv.ret rfl (by rw [hQ]; exact ⟨by rw [e], (RKX.fp RKX.rf (Or.inl rfl)), HKX.f (HSX.same hH b3 (fp_ne (Or.inr (by decide))) (fun k => fp_ne (Or.inl (by decide)))) (by rw [e]; rfl), by rw [m_act_f c1]; exact XS.sd hS b3 (by decide)⟩)
  · skip
    replace c1 := of_decide_eq_false c1
    replace c1 := b2n.mp c1
    obtain ⟨g, s, hg, hs, hgl, hsl, rfl, rfl⟩ := gs_t c1
    refine Pv.iload rfl rfl ?_
    refine Pv.lit rfl ?_
    refine Pv.lit rfl ?_
    refine Pv.callI (as := [.int z, .int 1, .int 250]) (rest := []) (z := b2i (decide (1 ≤ z) && decide (z ≤ 250))) rfl rfl rfl (q_isIn z 1 250) ?_
    refine Pv.if0 rfl (fun c2 => ?_) (fun c2 => ?_)
    · skip
      replace c2 : decide (b2i (decide (1 ≤ z) && decide (z ≤ 250)) = 0) = false := by simpa using c2
      replace c2 := of_decide_eq_false c2
      replace c2 := b2n.mp c2
      obtain ⟨k, hn, hna, hnb, rfl⟩ := ndr_t ((ndr_in (a := 1) (b := 250) (by omega) (by omega)).symm.trans c2)
      refine Pv.aload rfl rfl ?_
      refine Pv.iload rfl rfl ?_
      refine Pv.iload rfl rfl ?_
      refine Pv.callI (as := [.int (Int32.ofNat g), .int (Int32.ofNat s)]) (rest := [.ref 69]) (z := Int32.ofNat (2 * g + s)) rfl rfl rfl (g_cell (g := g) (s := s)) ?_
      refine Pv.iload rfl rfl ?_
      refine Pv.callVI (as := [.ref 69, .int (Int32.ofNat (2 * g + s)), .int (Int32.ofNat k)]) (rest := []) (z := m_why 0 S (2 * g + s) (Int32.ofNat k)) rfl rfl rfl (g_whyHoard (k := 2 * g + s) (n := Int32.ofNat k) (XS.sd (a := 69) (k := 0) (v := 0) hS b3 (by decide)) (GW.fpp (a := 69) (k := 0) (v := 0) hG) (by omega)) ?_
      refine Pv.if0 rfl (fun c3 => ?_) (fun c3 => ?_)
      · skip
        replace c3 := of_decide_eq_true c3
        refine Pv.aload rfl rfl ?_
        refine Pv.callV (as := [.ref 69]) (rest := []) rfl rfl rfl (g_keep b3 (XS.sd (a := 69) (k := 0) (v := 0) hS b3 (by decide)) (GW.fpp (a := 69) (k := 0) (v := 0) hG) (HSX.same hH b3 (fp_ne (Or.inr (by decide))) (fun k => fp_ne (Or.inl (by decide))))) ?_
        rintro _ G4 ⟨rfl, x5, x6, x7, hk8⟩
        have rk9 := RKX.kp (RKX.fp RKX.rf (Or.inl rfl)) x5 x6 x7
        have hs10 := XS.of (XS.sd (a := 69) (k := 0) (v := 0) hS b3 (by decide)) b3 (fun k _ _ => x6 k)
        have hx11 := RKX.T rk9 hT
        have hx12 := RKX.G rk9 hG
        refine (show Pv _ _ 46 [some (.ref 69), some (.int (Int32.ofNat g)), some (.int (Int32.ofNat s)), some (.int (Int32.ofNat k))] [] G4 Q from ?_)
        refine Pv.aload rfl rfl ?_
        refine Pv.iload rfl rfl ?_
        refine Pv.iload rfl rfl ?_
        refine Pv.callI (as := [.int (Int32.ofNat g), .int (Int32.ofNat s)]) (rest := [.ref 69]) (z := Int32.ofNat (2 * g + s)) rfl rfl rfl (g_cell (g := g) (s := s)) ?_
        refine Pv.iload rfl rfl ?_
        refine Pv.callVU (as := [.ref 69, .int (Int32.ofNat (2 * g + s)), .int (Int32.ofNat k)]) (rest := []) rfl rfl rfl (g_hoards (k := 2 * g + s) (n := Int32.ofNat k) hs10 hx12 (by omega)) ?_
        refine Pv.lit rfl ?_
        have e : a_act 0 T S (Int32.ofNat g) (Int32.ofNat s) (Int32.ofNat k) = m_why 0 S (2 * g + s) (Int32.ofNat k) := by unfold a_act; rw [aGS_t hg hs, hn]
        have cw : m_why 0 S (2 * g + s) (Int32.ofNat k) ≤ 0 := c3
        exact Pv.ret rfl (by rw [hQ]; exact ⟨by rw [e, (show m_why 0 S (2 * g + s) (Int32.ofNat k) = 0 from (why_le (d := 0) (by decide)).mp cw)], (RKX.st (RKX.st rk9 (by omega) (by omega)) (by omega) (by omega)), HKX.t (HSX.same hk8 b3 ((fp_ne (Or.inl (by decide))).trans (fp_ne (Or.inl (by decide)))) (fun k => (fp_ne (Or.inl (by decide))).trans (fp_ne (Or.inl (by decide))))) (by rw [e]; exact decide_eq_true (show m_why 0 S (2 * g + s) (Int32.ofNat k) = 0 from (why_le (d := 0) (by decide)).mp cw)), by rw [m_act_y hg hs hn, try_y (d := 0) (show m_why 0 S (2 * g + s) (Int32.ofNat k) = 0 from (why_le (d := 0) (by decide)).mp cw)]; exact XS.do0 hs10 b3 (by omega)⟩)
      · skip
        replace c3 := of_decide_eq_false c3
        refine Pv.lit rfl ?_
        have e : a_act 0 T S (Int32.ofNat g) (Int32.ofNat s) (Int32.ofNat k) = m_why 0 S (2 * g + s) (Int32.ofNat k) := by unfold a_act; rw [aGS_t hg hs, hn]
        have cw : ¬ m_why 0 S (2 * g + s) (Int32.ofNat k) ≤ 0 := c3
        exact Pv.ret rfl (by rw [hQ]; exact ⟨by rw [e, whyh_1 (d := 0) (by decide) cw], (RKX.fp RKX.rf (Or.inl rfl)), HKX.f (HSX.same hH b3 (fp_ne (Or.inr (by decide))) (fun k => fp_ne (Or.inl (by decide)))) (by rw [e]; exact decide_eq_false (fun q => cw ((why_le (d := 0) (by decide)).mpr q))), by rw [m_act_y hg hs hn, try_n (d := 0) (fun q => cw ((why_le (d := 0) (by decide)).mpr q))]; exact XS.sd hS b3 (by decide)⟩)
    · skip
      replace c2 : decide (b2i (decide (1 ≤ z) && decide (z ≤ 250)) = 0) = true := by simpa using c2
      replace c2 := of_decide_eq_true c2
      replace c2 := b2z.mp c2
      refine Pv.lit rfl ?_
      have e : a_act 0 T S (Int32.ofNat g) (Int32.ofNat s) z = -1 := by unfold a_act; rw [aGS_t hg hs, ndr_f ((ndr_in (a := 1) (b := 250) (by omega) (by omega)).symm.trans c2)]
      exact Pv.ret rfl (by rw [hQ]; exact ⟨by rw [e], (RKX.fp RKX.rf (Or.inl rfl)), HKX.f (HSX.same hH b3 (fp_ne (Or.inr (by decide))) (fun k => fp_ne (Or.inl (by decide)))) (by rw [e]; rfl), by rw [m_act_n hg hs (ndr_f ((ndr_in (a := 1) (b := 250) (by omega) (by omega)).symm.trans c2))]; exact XS.sd hS b3 (by decide)⟩)
set_option maxRecDepth 100000 in
set_option maxHeartbeats 4000000 in
theorem q_bare {F : FW} {T : St} {S : Sh} (hT : XT F T) (hS : XS F (t_m T) S) (hG : GW F) {n : Nat} {H : Nat → Sh} (hH : HSX F (t_m T) n H) (x y z : Int32) : Pm Z_X11_bare [.ref 69, .int x, .int y, .int z] F (fun r F' => r = some (.int (a_act 1 T S x y z)) ∧ RKX F F' ∧ HKX (decide (a_act 1 T S x y z = 0)) F' (t_m T) n H S ∧ XS F' (t_m T) (m_act 1 T S x y z)) := by
  refine Pm.of fun N => ?_
  obtain ⟨Q, hQ⟩ : ∃ Q : Option Value → FW → Prop, Q = (fun r F' => r = some (.int (a_act 1 T S x y z)) ∧ RKX F F' ∧ HKX (decide (a_act 1 T S x y z = 0)) F' (t_m T) n H S ∧ XS F' (t_m T) (m_act 1 T S x y z)) := ⟨_, rfl⟩
  rw [← hQ]
  have b3 := hT.mb
  have b4 := hT.nb
  have b5 := hT.gb
  have b6 := m_from_lt S
  have b7 := hS.db
  refine (show Pv (ab_T (L_X11_bare Z_X11_isPlace Z_X11_isIn Z_X11_cell Z_X11_whyBare Z_X11_keep Z_X11_hoards)) N 0 [some (.ref 69), some (.int x), some (.int y), some (.int z), none] [] F Q from ?_)
  refine Pv.aload rfl rfl ?_
  refine Pv.lit rfl ?_
  refine Pv.putI rfl rfl ?_
  refine Pv.aload rfl rfl ?_
  refine Pv.iload rfl rfl ?_
  refine Pv.iload rfl rfl ?_
  refine Pv.callVI (as := [.ref 69, .int x, .int y]) (rest := []) (z := b2i ((nd (t_g T) x).isSome && (nd 2 y).isSome)) rfl rfl rfl (q_isPlace (hT.fx (P := fun q => q = 69) (((FX.rf (P := fun q => q = 69))).fp rfl) (by decide)) (hG.fx (P := fun _ => True) (((FX.rf (P := fun _ => True))).fp trivial)) x y) ?_
  refine Pv.if0 rfl (fun c1 => ?_) (fun c1 => ?_)
  · skip
    replace c1 := of_decide_eq_true c1
    replace c1 := b2z.mp c1
    refine Pv.lit rfl ?_
    have e : a_act 1 T S x y z = -1 := by unfold a_act; rw [aGS_f c1]
    exact Pv.ret rfl (by rw [hQ]; exact ⟨by rw [e], (RKX.fp RKX.rf (Or.inl rfl)), HKX.f (HSX.same hH b3 (fp_ne (Or.inr (by decide))) (fun k => fp_ne (Or.inl (by decide)))) (by rw [e]; rfl), by rw [m_act_f c1]; exact XS.sd hS b3 (by decide)⟩)
  · skip
    replace c1 := of_decide_eq_false c1
    replace c1 := b2n.mp c1
    obtain ⟨g, s, hg, hs, hgl, hsl, rfl, rfl⟩ := gs_t c1
    refine Pv.iload rfl rfl ?_
    refine Pv.lit rfl ?_
    refine Pv.lit rfl ?_
    refine Pv.callI (as := [.int z, .int 1, .int 250]) (rest := []) (z := b2i (decide (1 ≤ z) && decide (z ≤ 250))) rfl rfl rfl (q_isIn z 1 250) ?_
    refine Pv.if0 rfl (fun c2 => ?_) (fun c2 => ?_)
    · skip
      replace c2 : decide (b2i (decide (1 ≤ z) && decide (z ≤ 250)) = 0) = false := by simpa using c2
      replace c2 := of_decide_eq_false c2
      replace c2 := b2n.mp c2
      obtain ⟨k, hn, hna, hnb, rfl⟩ := ndr_t ((ndr_in (a := 1) (b := 250) (by omega) (by omega)).symm.trans c2)
      refine Pv.aload rfl rfl ?_
      refine Pv.iload rfl rfl ?_
      refine Pv.iload rfl rfl ?_
      refine Pv.callI (as := [.int (Int32.ofNat g), .int (Int32.ofNat s)]) (rest := [.ref 69]) (z := Int32.ofNat (2 * g + s)) rfl rfl rfl (g_cell (g := g) (s := s)) ?_
      refine Pv.iload rfl rfl ?_
      refine Pv.callVI (as := [.ref 69, .int (Int32.ofNat (2 * g + s)), .int (Int32.ofNat k)]) (rest := []) (z := m_why 1 S (2 * g + s) (Int32.ofNat k)) rfl rfl rfl (g_whyBare (k := 2 * g + s) (n := Int32.ofNat k) (XS.sd (a := 69) (k := 0) (v := 0) hS b3 (by decide)) (GW.fpp (a := 69) (k := 0) (v := 0) hG) (by omega)) ?_
      refine Pv.istore (lo' := [some (.ref 69), some (.int (Int32.ofNat g)), some (.int (Int32.ofNat s)), some (.int (Int32.ofNat k)), some (.int (m_why 1 S (2 * g + s) (Int32.ofNat k)))]) rfl rfl ?_
      refine Pv.iload rfl rfl ?_
      refine Pv.if0 rfl (fun c3 => ?_) (fun c3 => ?_)
      · skip
        replace c3 := of_decide_eq_true c3
        refine Pv.aload rfl rfl ?_
        refine Pv.callV (as := [.ref 69]) (rest := []) rfl rfl rfl (g_keep b3 (XS.sd (a := 69) (k := 0) (v := 0) hS b3 (by decide)) (GW.fpp (a := 69) (k := 0) (v := 0) hG) (HSX.same hH b3 (fp_ne (Or.inr (by decide))) (fun k => fp_ne (Or.inl (by decide))))) ?_
        rintro _ G4 ⟨rfl, x5, x6, x7, hk8⟩
        have rk9 := RKX.kp (RKX.fp RKX.rf (Or.inl rfl)) x5 x6 x7
        have hs10 := XS.of (XS.sd (a := 69) (k := 0) (v := 0) hS b3 (by decide)) b3 (fun k _ _ => x6 k)
        have hx11 := RKX.T rk9 hT
        have hx12 := RKX.G rk9 hG
        refine (show Pv _ _ 51 [some (.ref 69), some (.int (Int32.ofNat g)), some (.int (Int32.ofNat s)), some (.int (Int32.ofNat k)), some (.int (m_why 1 S (2 * g + s) (Int32.ofNat k)))] [] G4 Q from ?_)
        refine Pv.aload rfl rfl ?_
        refine Pv.iload rfl rfl ?_
        refine Pv.iload rfl rfl ?_
        refine Pv.callI (as := [.int (Int32.ofNat g), .int (Int32.ofNat s)]) (rest := [.ref 69]) (z := Int32.ofNat (2 * g + s)) rfl rfl rfl (g_cell (g := g) (s := s)) ?_
        refine Pv.iload rfl rfl ?_
        refine Pv.un (z := -(Int32.ofNat k)) rfl (rfl) ?_
        refine Pv.callVU (as := [.ref 69, .int (Int32.ofNat (2 * g + s)), .int (-(Int32.ofNat k))]) (rest := []) rfl rfl rfl (g_hoards (k := 2 * g + s) (n := -(Int32.ofNat k)) hs10 hx12 (by omega)) ?_
        refine Pv.lit rfl ?_
        have e : a_act 1 T S (Int32.ofNat g) (Int32.ofNat s) (Int32.ofNat k) = m_why 1 S (2 * g + s) (Int32.ofNat k) := by unfold a_act; rw [aGS_t hg hs, hn]
        have cw : m_why 1 S (2 * g + s) (Int32.ofNat k) ≤ 0 := c3
        exact Pv.ret rfl (by rw [hQ]; exact ⟨by rw [e, (show m_why 1 S (2 * g + s) (Int32.ofNat k) = 0 from (why_le (d := 1) (by decide)).mp cw)], (RKX.st (RKX.st rk9 (by omega) (by omega)) (by omega) (by omega)), HKX.t (HSX.same hk8 b3 ((fp_ne (Or.inl (by decide))).trans (fp_ne (Or.inl (by decide)))) (fun k => (fp_ne (Or.inl (by decide))).trans (fp_ne (Or.inl (by decide))))) (by rw [e]; exact decide_eq_true (show m_why 1 S (2 * g + s) (Int32.ofNat k) = 0 from (why_le (d := 1) (by decide)).mp cw)), by rw [m_act_y hg hs hn, try_y (d := 1) (show m_why 1 S (2 * g + s) (Int32.ofNat k) = 0 from (why_le (d := 1) (by decide)).mp cw)]; exact XS.do1 hs10 b3 (by omega)⟩)
      · skip
        replace c3 := of_decide_eq_false c3
        refine Pv.iload rfl rfl ?_
        have e : a_act 1 T S (Int32.ofNat g) (Int32.ofNat s) (Int32.ofNat k) = m_why 1 S (2 * g + s) (Int32.ofNat k) := by unfold a_act; rw [aGS_t hg hs, hn]
        have cw : ¬ m_why 1 S (2 * g + s) (Int32.ofNat k) ≤ 0 := c3
        exact Pv.ret rfl (by rw [hQ]; exact ⟨by rw [e], (RKX.fp RKX.rf (Or.inl rfl)), HKX.f (HSX.same hH b3 (fp_ne (Or.inr (by decide))) (fun k => fp_ne (Or.inl (by decide)))) (by rw [e]; exact decide_eq_false (fun q => cw ((why_le (d := 1) (by decide)).mpr q))), by rw [m_act_y hg hs hn, try_n (d := 1) (fun q => cw ((why_le (d := 1) (by decide)).mpr q))]; exact XS.sd hS b3 (by decide)⟩)
    · skip
      replace c2 : decide (b2i (decide (1 ≤ z) && decide (z ≤ 250)) = 0) = true := by simpa using c2
      replace c2 := of_decide_eq_true c2
      replace c2 := b2z.mp c2
      refine Pv.lit rfl ?_
      have e : a_act 1 T S (Int32.ofNat g) (Int32.ofNat s) z = -1 := by unfold a_act; rw [aGS_t hg hs, ndr_f ((ndr_in (a := 1) (b := 250) (by omega) (by omega)).symm.trans c2)]
      exact Pv.ret rfl (by rw [hQ]; exact ⟨by rw [e], (RKX.fp RKX.rf (Or.inl rfl)), HKX.f (HSX.same hH b3 (fp_ne (Or.inr (by decide))) (fun k => fp_ne (Or.inl (by decide)))) (by rw [e]; rfl), by rw [m_act_n hg hs (ndr_f ((ndr_in (a := 1) (b := 250) (by omega) (by omega)).symm.trans c2))]; exact XS.sd hS b3 (by decide)⟩)
set_option maxRecDepth 100000 in
set_option maxHeartbeats 4000000 in
theorem q_waste {F : FW} {T : St} {S : Sh} (hT : XT F T) (hS : XS F (t_m T) S) (hG : GW F) {n : Nat} {H : Nat → Sh} (hH : HSX F (t_m T) n H) (x y z : Int32) : Pm Z_X11_waste [.ref 69, .int x, .int y, .int z] F (fun r F' => r = some (.int (a_act 2 T S x y z)) ∧ RKX F F' ∧ HKX (decide (a_act 2 T S x y z = 0)) F' (t_m T) n H S ∧ XS F' (t_m T) (m_act 2 T S x y z)) := by
  refine Pm.of fun N => ?_
  obtain ⟨Q, hQ⟩ : ∃ Q : Option Value → FW → Prop, Q = (fun r F' => r = some (.int (a_act 2 T S x y z)) ∧ RKX F F' ∧ HKX (decide (a_act 2 T S x y z = 0)) F' (t_m T) n H S ∧ XS F' (t_m T) (m_act 2 T S x y z)) := ⟨_, rfl⟩
  rw [← hQ]
  have b3 := hT.mb
  have b4 := hT.nb
  have b5 := hT.gb
  have b6 := m_from_lt S
  have b7 := hS.db
  refine (show Pv (ab_T (L_X11_waste Z_X11_isPlace Z_X11_isIn Z_X11_cell Z_X11_whyHoard Z_X11_keep)) N 0 [some (.ref 69), some (.int x), some (.int y), some (.int z)] [] F Q from ?_)
  refine Pv.aload rfl rfl ?_
  refine Pv.lit rfl ?_
  refine Pv.putI rfl rfl ?_
  refine Pv.aload rfl rfl ?_
  refine Pv.iload rfl rfl ?_
  refine Pv.iload rfl rfl ?_
  refine Pv.callVI (as := [.ref 69, .int x, .int y]) (rest := []) (z := b2i ((nd (t_g T) x).isSome && (nd 2 y).isSome)) rfl rfl rfl (q_isPlace (hT.fx (P := fun q => q = 69) (((FX.rf (P := fun q => q = 69))).fp rfl) (by decide)) (hG.fx (P := fun _ => True) (((FX.rf (P := fun _ => True))).fp trivial)) x y) ?_
  refine Pv.if0 rfl (fun c1 => ?_) (fun c1 => ?_)
  · skip
    replace c1 := of_decide_eq_true c1
    replace c1 := b2z.mp c1
    refine Pv.lit rfl ?_
    have e : a_act 2 T S x y z = -1 := by unfold a_act; rw [aGS_f c1]
    exact Pv.ret rfl (by rw [hQ]; exact ⟨by rw [e], (RKX.fp RKX.rf (Or.inl rfl)), HKX.f (HSX.same hH b3 (fp_ne (Or.inr (by decide))) (fun k => fp_ne (Or.inl (by decide)))) (by rw [e]; rfl), by rw [m_act_f c1]; exact XS.sd hS b3 (by decide)⟩)
  · skip
    replace c1 := of_decide_eq_false c1
    replace c1 := b2n.mp c1
    obtain ⟨g, s, hg, hs, hgl, hsl, rfl, rfl⟩ := gs_t c1
    refine Pv.iload rfl rfl ?_
    refine Pv.lit rfl ?_
    refine Pv.lit rfl ?_
    refine Pv.callI (as := [.int z, .int 1, .int 250]) (rest := []) (z := b2i (decide (1 ≤ z) && decide (z ≤ 250))) rfl rfl rfl (q_isIn z 1 250) ?_
    refine Pv.if0 rfl (fun c2 => ?_) (fun c2 => ?_)
    · skip
      replace c2 : decide (b2i (decide (1 ≤ z) && decide (z ≤ 250)) = 0) = false := by simpa using c2
      replace c2 := of_decide_eq_false c2
      replace c2 := b2n.mp c2
      obtain ⟨k, hn, hna, hnb, rfl⟩ := ndr_t ((ndr_in (a := 1) (b := 250) (by omega) (by omega)).symm.trans c2)
      refine Pv.aload rfl rfl ?_
      refine Pv.iload rfl rfl ?_
      refine Pv.iload rfl rfl ?_
      refine Pv.callI (as := [.int (Int32.ofNat g), .int (Int32.ofNat s)]) (rest := [.ref 69]) (z := Int32.ofNat (2 * g + s)) rfl rfl rfl (g_cell (g := g) (s := s)) ?_
      refine Pv.iload rfl rfl ?_
      refine Pv.callVI (as := [.ref 69, .int (Int32.ofNat (2 * g + s)), .int (Int32.ofNat k)]) (rest := []) (z := m_why 0 S (2 * g + s) (Int32.ofNat k)) rfl rfl rfl (g_whyHoard (k := 2 * g + s) (n := Int32.ofNat k) (XS.sd (a := 69) (k := 0) (v := 0) hS b3 (by decide)) (GW.fpp (a := 69) (k := 0) (v := 0) hG) (by omega)) ?_
      refine Pv.if0 rfl (fun c3 => ?_) (fun c3 => ?_)
      · skip
        replace c3 := of_decide_eq_true c3
        refine Pv.aload rfl rfl ?_
        refine Pv.callV (as := [.ref 69]) (rest := []) rfl rfl rfl (g_keep b3 (XS.sd (a := 69) (k := 0) (v := 0) hS b3 (by decide)) (GW.fpp (a := 69) (k := 0) (v := 0) hG) (HSX.same hH b3 (fp_ne (Or.inr (by decide))) (fun k => fp_ne (Or.inl (by decide))))) ?_
        rintro _ G4 ⟨rfl, x5, x6, x7, hk8⟩
        have rk9 := RKX.kp (RKX.fp RKX.rf (Or.inl rfl)) x5 x6 x7
        have hs10 := XS.of (XS.sd (a := 69) (k := 0) (v := 0) hS b3 (by decide)) b3 (fun k _ _ => x6 k)
        have hx11 := RKX.T rk9 hT
        have hx12 := RKX.G rk9 hG
        refine (show Pv _ _ 46 [some (.ref 69), some (.int (Int32.ofNat g)), some (.int (Int32.ofNat s)), some (.int (Int32.ofNat k))] [] G4 Q from ?_)
        refine Pv.aload rfl rfl ?_
        refine Pv.getR (v := .ref 71) rfl rfl (GW.at (a := 69) (k := 6) (b := 71) hx12 (by decide)) ?_
        refine Pv.lit rfl ?_
        refine Pv.iload rfl rfl ?_
        refine Pv.iload rfl rfl ?_
        refine Pv.callI (as := [.int (Int32.ofNat g), .int (Int32.ofNat s)]) (rest := [.int 124, .ref 71]) (z := Int32.ofNat (2 * g + s)) rfl rfl rfl (g_cell (g := g) (s := s)) ?_
        refine Pv.bin (z := Int32.ofNat (124 + (2 * g + s))) rfl (i_add 124 (2 * g + s)) ?_
        refine Pv.dup2 rfl ?_
        refine Pv.ald (z := h_s S (2 * g + s)) rfl (by rw [i_toNat (by omega)]; exact hs10.s _ (by omega)) ?_
        refine Pv.iload rfl rfl ?_
        refine Pv.bin (z := (h_s S (2 * g + s)) - (Int32.ofNat k)) rfl (rfl) ?_
        refine Pv.astk (k := 124 + (2 * g + s)) (z := (h_s S (2 * g + s)) - (Int32.ofNat k)) rfl (i_toNat (by omega)) (rfl) ?_
        refine Pv.lit rfl ?_
        have e : a_act 2 T S (Int32.ofNat g) (Int32.ofNat s) (Int32.ofNat k) = m_why 2 S (2 * g + s) (Int32.ofNat k) := by unfold a_act; rw [aGS_t hg hs, hn]
        have cw : m_why 2 S (2 * g + s) (Int32.ofNat k) ≤ 0 := c3
        exact Pv.ret rfl (by rw [hQ]; exact ⟨by rw [e, (show m_why 2 S (2 * g + s) (Int32.ofNat k) = 0 from (why_le (d := 2) (by decide)).mp cw)], (RKX.st rk9 (by omega) (by omega)), HKX.t (HSX.same hk8 b3 (fp_ne (Or.inl (by decide))) (fun k => fp_ne (Or.inl (by decide)))) (by rw [e]; exact decide_eq_true (show m_why 2 S (2 * g + s) (Int32.ofNat k) = 0 from (why_le (d := 2) (by decide)).mp cw)), by rw [m_act_y hg hs hn, try_y (d := 2) (show m_why 2 S (2 * g + s) (Int32.ofNat k) = 0 from (why_le (d := 2) (by decide)).mp cw)]; exact XS.do2 hs10 b3 (by omega)⟩)
      · skip
        replace c3 := of_decide_eq_false c3
        refine Pv.lit rfl ?_
        have e : a_act 2 T S (Int32.ofNat g) (Int32.ofNat s) (Int32.ofNat k) = m_why 2 S (2 * g + s) (Int32.ofNat k) := by unfold a_act; rw [aGS_t hg hs, hn]
        have cw : ¬ m_why 2 S (2 * g + s) (Int32.ofNat k) ≤ 0 := c3
        exact Pv.ret rfl (by rw [hQ]; exact ⟨by rw [e, whyh_1 (d := 2) (by decide) cw], (RKX.fp RKX.rf (Or.inl rfl)), HKX.f (HSX.same hH b3 (fp_ne (Or.inr (by decide))) (fun k => fp_ne (Or.inl (by decide)))) (by rw [e]; exact decide_eq_false (fun q => cw ((why_le (d := 2) (by decide)).mpr q))), by rw [m_act_y hg hs hn, try_n (d := 2) (fun q => cw ((why_le (d := 2) (by decide)).mpr q))]; exact XS.sd hS b3 (by decide)⟩)
    · skip
      replace c2 : decide (b2i (decide (1 ≤ z) && decide (z ≤ 250)) = 0) = true := by simpa using c2
      replace c2 := of_decide_eq_true c2
      replace c2 := b2z.mp c2
      refine Pv.lit rfl ?_
      have e : a_act 2 T S (Int32.ofNat g) (Int32.ofNat s) z = -1 := by unfold a_act; rw [aGS_t hg hs, ndr_f ((ndr_in (a := 1) (b := 250) (by omega) (by omega)).symm.trans c2)]
      exact Pv.ret rfl (by rw [hQ]; exact ⟨by rw [e], (RKX.fp RKX.rf (Or.inl rfl)), HKX.f (HSX.same hH b3 (fp_ne (Or.inr (by decide))) (fun k => fp_ne (Or.inl (by decide)))) (by rw [e]; rfl), by rw [m_act_n hg hs (ndr_f ((ndr_in (a := 1) (b := 250) (by omega) (by omega)).symm.trans c2))]; exact XS.sd hS b3 (by decide)⟩)
set_option maxRecDepth 100000 in
set_option maxHeartbeats 4000000 in
theorem q_die {F : FW} {T : St} {S : Sh} (hT : XT F T) (hS : XS F (t_m T) S) (hG : GW F) {n : Nat} {H : Nat → Sh} (hH : HSX F (t_m T) n H) (x : Int32) : Pm Z_X11_die [.ref 69, .int x] F (fun r F' => r = some (.int (a_die T S x)) ∧ RKX F F' ∧ HKX (decide (a_die T S x = 0)) F' (t_m T) n H S ∧ XS F' (t_m T) (m_die T S x)) := by
  refine Pm.of fun N => ?_
  obtain ⟨Q, hQ⟩ : ∃ Q : Option Value → FW → Prop, Q = (fun r F' => r = some (.int (a_die T S x)) ∧ RKX F F' ∧ HKX (decide (a_die T S x = 0)) F' (t_m T) n H S ∧ XS F' (t_m T) (m_die T S x)) := ⟨_, rfl⟩
  rw [← hQ]
  have b3 := hT.mb
  have b4 := hT.nb
  have b5 := hT.gb
  have b6 := m_from_lt S
  have b7 := hS.db
  refine (show Pv (ab_T (L_X11_die Z_X11_isMan Z_X11_isDead Z_X11_keep)) N 0 [some (.ref 69), some (.int x)] [] F Q from ?_)
  refine Pv.aload rfl rfl ?_
  refine Pv.lit rfl ?_
  refine Pv.putI rfl rfl ?_
  refine Pv.aload rfl rfl ?_
  refine Pv.iload rfl rfl ?_
  refine Pv.callVI (as := [.ref 69, .int x]) (rest := []) (z := b2i (nd (t_m T) x).isSome) rfl rfl rfl (q_isMan (hT.fx (P := fun q => q = 69) (((FX.rf (P := fun q => q = 69))).fp rfl) (by decide)) (hG.fx (P := fun _ => True) (((FX.rf (P := fun _ => True))).fp trivial)) x) ?_
  refine Pv.if0 rfl (fun c1 => ?_) (fun c1 => ?_)
  · skip
    replace c1 : decide (b2i (nd (t_m T) x).isSome = 0) = false := by simpa using c1
    replace c1 := of_decide_eq_false c1
    replace c1 := b2n.mp c1
    obtain ⟨k, hn, hnl, rfl⟩ := nd_t c1
    refine Pv.aload rfl rfl ?_
    refine Pv.iload rfl rfl ?_
    refine Pv.callVI (as := [.ref 69, .int (Int32.ofNat k)]) (rest := []) (z := b2i (!m_alive S k)) rfl rfl rfl (g_isDead (o := 0) (m := k) (hS.xd.fx (P := fun q => q = 69) (((FX.rf (P := fun q => q = 69))).fp rfl) (by decide)) (hG.fx (P := fun _ => True) (((FX.rf (P := fun _ => True))).fp trivial)) (by omega)) ?_
    refine Pv.if0 rfl (fun c2 => ?_) (fun c2 => ?_)
    · skip
      replace c2 := of_decide_eq_true c2
      replace c2 := b2z.mp c2
      refine Pv.aload rfl rfl ?_
      refine Pv.callV (as := [.ref 69]) (rest := []) rfl rfl rfl (g_keep b3 (XS.sd (a := 69) (k := 0) (v := 0) hS b3 (by decide)) (GW.fpp (a := 69) (k := 0) (v := 0) hG) (HSX.same hH b3 (fp_ne (Or.inr (by decide))) (fun k => fp_ne (Or.inl (by decide))))) ?_
      rintro _ G3 ⟨rfl, x4, x5, x6, hk7⟩
      have rk8 := RKX.kp (RKX.fp RKX.rf (Or.inl rfl)) x4 x5 x6
      have hs9 := XS.of (XS.sd (a := 69) (k := 0) (v := 0) hS b3 (by decide)) b3 (fun k _ _ => x5 k)
      have hx10 := RKX.T rk8 hT
      have hx11 := RKX.G rk8 hG
      refine (show Pv _ _ 29 [some (.ref 69), some (.int (Int32.ofNat k))] [] G3 Q from ?_)
      refine Pv.aload rfl rfl ?_
      refine Pv.getR (v := .ref 71) rfl rfl (GW.at (a := 69) (k := 6) (b := 71) hx11 (by decide)) ?_
      refine Pv.lit rfl ?_
      refine Pv.dup2 rfl ?_
      refine Pv.ald (z := G3.1 71 180) rfl (rfl) ?_
      refine Pv.lit rfl ?_
      refine Pv.iload rfl rfl ?_
      refine Pv.bin (z := 1 <<< ((Int32.ofNat k) &&& 31)) rfl (rfl) ?_
      refine Pv.bin (z := (G3.1 71 180) ||| (1 <<< ((Int32.ofNat k) &&& 31))) rfl (rfl) ?_
      refine Pv.astk (k := 180) (z := (G3.1 71 180) ||| (1 <<< ((Int32.ofNat k) &&& 31))) rfl (rfl) (rfl) ?_
      refine Pv.lit rfl ?_
      have e : a_die T S (Int32.ofNat k) = m_why 3 S k 0 := by unfold a_die; rw [hn]
      have w : m_why 3 S k 0 = 0 := if_pos (by simpa using c2)
      exact Pv.ret rfl (by rw [hQ]; exact ⟨by rw [e, w], (RKX.st rk8 (by omega) (by omega)), HKX.t (HSX.same hk7 b3 (fp_ne (Or.inl (by decide))) (fun k => fp_ne (Or.inl (by decide)))) (by rw [e]; exact decide_eq_true w), by unfold m_die; rw [hn]; exact XS.die3b hs9 b3 (by omega) rfl⟩)
    · skip
      replace c2 := of_decide_eq_false c2
      replace c2 := b2n.mp c2
      refine Pv.lit rfl ?_
      have e : a_die T S (Int32.ofNat k) = m_why 3 S k 0 := by unfold a_die; rw [hn]
      have w : m_why 3 S k 0 = 1 := if_neg (by have q := c2; simp at q; rw [q]; decide)
      exact Pv.ret rfl (by rw [hQ]; exact ⟨by rw [e, w], (RKX.fp RKX.rf (Or.inl rfl)), HKX.f (HSX.same hH b3 (fp_ne (Or.inr (by decide))) (fun k => fp_ne (Or.inl (by decide)))) (by rw [e, w]; rfl), by unfold m_die; rw [hn]; dsimp only; rw [try_n (d := 3) (by rw [w]; decide)]; exact XS.sd hS b3 (by decide)⟩)
  · skip
    replace c1 : decide (b2i (nd (t_m T) x).isSome = 0) = true := by simpa using c1
    replace c1 := of_decide_eq_true c1
    replace c1 := b2z.mp c1
    refine Pv.lit rfl ?_
    have e : a_die T S x = -1 := by unfold a_die; rw [nd_f c1]
    exact Pv.ret rfl (by rw [hQ]; exact ⟨by rw [e], (RKX.fp RKX.rf (Or.inl rfl)), HKX.f (HSX.same hH b3 (fp_ne (Or.inr (by decide))) (fun k => fp_ne (Or.inl (by decide)))) (by rw [e]; rfl), by unfold m_die; rw [nd_f c1]; exact XS.sd hS b3 (by decide)⟩)
set_option maxRecDepth 100000 in
set_option maxHeartbeats 4000000 in
theorem q_days {F : FW} {T : St} {S : Sh} (hT : XT F T) (hS : XS F (t_m T) S) (hG : GW F) {n : Nat} {H : Nat → Sh} (hH : HSX F (t_m T) n H) (hTB : TBB T) (hI : INV T S) (x : Int32) : Pm Z_X11_days [.ref 69, .int x] F (fun r F' => r = some (.int (a_days T S x)) ∧ RKX F F' ∧ HKX ((ndr 1 60 x).isSome && decide (h_d S < 400)) F' (t_m T) n H S ∧ XS F' (t_m T) (m_dys T S x)) := by
  refine Pm.of fun N => ?_
  obtain ⟨Q, hQ⟩ : ∃ Q : Option Value → FW → Prop, Q = (fun r F' => r = some (.int (a_days T S x)) ∧ RKX F F' ∧ HKX ((ndr 1 60 x).isSome && decide (h_d S < 400)) F' (t_m T) n H S ∧ XS F' (t_m T) (m_dys T S x)) := ⟨_, rfl⟩
  rw [← hQ]
  have b3 := hT.mb
  have b4 := hT.nb
  have b5 := hT.gb
  have b6 := m_from_lt S
  have b7 := hS.db
  have hSB := hI.sb
  refine (show Pv (ab_T (L_X11_days Z_X11_isIn Z_X11_keep Z_X11_goesOn)) N 0 [some (.ref 69), some (.int x)] [] F Q from ?_)
  refine Pv.aload rfl rfl ?_
  refine Pv.lit rfl ?_
  refine Pv.putI rfl rfl ?_
  refine Pv.iload rfl rfl ?_
  refine Pv.lit rfl ?_
  refine Pv.lit rfl ?_
  refine Pv.callI (as := [.int x, .int 1, .int 60]) (rest := []) (z := b2i (decide (1 ≤ x) && decide (x ≤ 60))) rfl rfl rfl (q_isIn x 1 60) ?_
  refine Pv.if0 rfl (fun c1 => ?_) (fun c1 => ?_)
  · skip
    replace c1 : decide (b2i (decide (1 ≤ x) && decide (x ≤ 60)) = 0) = false := by simpa using c1
    replace c1 := of_decide_eq_false c1
    replace c1 := b2n.mp c1
    obtain ⟨k, hn, hna, hnb, rfl⟩ := ndr_t ((ndr_in (a := 1) (b := 60) (by omega) (by omega)).symm.trans c1)
    refine Pv.aload rfl rfl ?_
    refine Pv.getR (v := .ref 71) rfl rfl (GW.at (a := 69) (k := 6) (b := 71) hG (by decide)) ?_
    refine Pv.lit rfl ?_
    refine Pv.ald (z := Int32.ofNat (h_d S)) rfl ((fp_ne (Or.inl (by decide))).trans (hS.d)) ?_
    refine Pv.lit rfl ?_
    refine Pv.icmp rfl (fun c2 => ?_) (fun c2 => ?_)
    · skip
      replace c2 : decide (Int32.ofNat (h_d S) = 400) = false := by simpa using c2
      replace c2 := mt (i_eq (a := h_d S) (b := 400) (by omega) (by omega)).mpr (of_decide_eq_false c2)
      refine Pv.aload rfl rfl ?_
      refine Pv.callV (as := [.ref 69]) (rest := []) rfl rfl rfl (g_keep b3 (XS.sd (a := 69) (k := 0) (v := 0) hS b3 (by decide)) (GW.fpp (a := 69) (k := 0) (v := 0) hG) (HSX.same hH b3 (fp_ne (Or.inr (by decide))) (fun k => fp_ne (Or.inl (by decide))))) ?_
      rintro _ G3 ⟨rfl, x4, x5, x6, hk7⟩
      have rk8 := RKX.kp (RKX.fp RKX.rf (Or.inl rfl)) x4 x5 x6
      have hs9 := XS.of (XS.sd (a := 69) (k := 0) (v := 0) hS b3 (by decide)) b3 (fun k _ _ => x5 k)
      have hx10 := RKX.T rk8 hT
      have hx11 := RKX.G rk8 hG
      refine (show Pv _ _ 36 [some (.ref 69), some (.int (Int32.ofNat k))] [] G3 Q from ?_)
      refine Pv.aload rfl rfl ?_
      refine Pv.iload rfl rfl ?_
      refine Pv.callV (as := [.ref 69, .int (Int32.ofNat k)]) (rest := []) rfl rfl rfl (g_goesOn (n := k) hx10 hs9 hx11 hTB hI.sb (by omega)) ?_
      rintro _ G12 ⟨rfl, x13, hs14⟩
      have rk15 := RKX.rx rk8 x13
      have hk16 := HSX.same hk7 b3 (x13.2.1 25 (by decide)) (fun k => x13.1.1 77 k (by decide))
      refine (show Pv _ _ 41 [some (.ref 69), some (.int (Int32.ofNat k))] [.int (Int32.ofNat (h_d (m_days T S k) - h_d S))] G12 Q from ?_)
      exact Pv.ret rfl (by rw [hQ]; exact ⟨by unfold a_days; rw [hn]; exact congrArg (fun q => some (Value.int q)) (i_subN (days_ge T S k)).symm, rk15, HKX.t hk16 (by rw [hn]; exact decide_eq_true (by omega)), by unfold m_dys; rw [hn]; exact hs14⟩)
    · skip
      replace c2 : decide (Int32.ofNat (h_d S) = 400) = true := by simpa using c2
      replace c2 := (i_eq (a := h_d S) (b := 400) (by omega) (by omega)).mp (of_decide_eq_true c2)
      refine Pv.lit rfl ?_
      exact Pv.ret rfl (by rw [hQ]; exact ⟨by unfold a_days; rw [hn]; dsimp only; rw [days_400 (by omega), Int32.sub_self], (RKX.fp RKX.rf (Or.inl rfl)), HKX.f (HSX.same hH b3 (fp_ne (Or.inr (by decide))) (fun k => fp_ne (Or.inl (by decide)))) (by rw [hn]; exact decide_eq_false (by omega)), by unfold m_dys; rw [hn]; dsimp only; rw [days_400 (by omega)]; exact XS.sd hS b3 (by decide)⟩)
  · skip
    replace c1 : decide (b2i (decide (1 ≤ x) && decide (x ≤ 60)) = 0) = true := by simpa using c1
    replace c1 := of_decide_eq_true c1
    replace c1 := b2z.mp c1
    refine Pv.lit rfl ?_
    exact Pv.ret rfl (by rw [hQ]; exact ⟨by unfold a_days; rw [ndr_f ((ndr_in (a := 1) (b := 60) (by omega) (by omega)).symm.trans c1)], (RKX.fp RKX.rf (Or.inl rfl)), HKX.f (HSX.same hH b3 (fp_ne (Or.inr (by decide))) (fun k => fp_ne (Or.inl (by decide)))) (by rw [ndr_f ((ndr_in (a := 1) (b := 60) (by omega) (by omega)).symm.trans c1)]; rfl), by unfold m_dys; rw [ndr_f ((ndr_in (a := 1) (b := 60) (by omega) (by omega)).symm.trans c1)]; exact XS.sd hS b3 (by decide)⟩)
set_option maxRecDepth 100000 in
set_option maxHeartbeats 4000000 in
theorem q_drawn {F : FW} {T : St} {S : Sh} (hT : XT F T) (hS : XS F (t_m T) S) (hG : GW F) {n : Nat} {H : Nat → Sh} (hH : HSX F (t_m T) n H) (hTB : TBB T) (hI : INV T S) (x z : Int32) : Pm Z_X11_drawn [.ref 69, .int x, .int z] F (fun r F' => r = some (.int (a_drawn T S x z)) ∧ RKX F F' ∧ HKX ((ndr 1 60 x).isSome && decide (0 < t_g T) && decide (h_d S < 400)) F' (t_m T) n H S ∧ XS F' (t_m T) (m_dwn T S x z)) := by
  refine Pm.of fun N => ?_
  obtain ⟨Q, hQ⟩ : ∃ Q : Option Value → FW → Prop, Q = (fun r F' => r = some (.int (a_drawn T S x z)) ∧ RKX F F' ∧ HKX ((ndr 1 60 x).isSome && decide (0 < t_g T) && decide (h_d S < 400)) F' (t_m T) n H S ∧ XS F' (t_m T) (m_dwn T S x z)) := ⟨_, rfl⟩
  rw [← hQ]
  have b3 := hT.mb
  have b4 := hT.nb
  have b5 := hT.gb
  have b6 := m_from_lt S
  have b7 := hS.db
  have hSB := hI.sb
  refine (show Pv (ab_T (L_X11_drawn Z_X11_isIn Z_X11_keep Z_X11_draws)) N 0 [some (.ref 69), some (.int x), some (.int z)] [] F Q from ?_)
  refine Pv.aload rfl rfl ?_
  refine Pv.lit rfl ?_
  refine Pv.putI rfl rfl ?_
  refine Pv.iload rfl rfl ?_
  refine Pv.lit rfl ?_
  refine Pv.lit rfl ?_
  refine Pv.callI (as := [.int x, .int 1, .int 60]) (rest := []) (z := b2i (decide (1 ≤ x) && decide (x ≤ 60))) rfl rfl rfl (q_isIn x 1 60) ?_
  refine Pv.if0 rfl (fun c1 => ?_) (fun c1 => ?_)
  · skip
    replace c1 := of_decide_eq_true c1
    replace c1 := b2z.mp c1
    refine Pv.lit rfl ?_
    exact Pv.ret rfl (by rw [hQ]; exact ⟨by unfold a_drawn; rw [ndr_f ((ndr_in (a := 1) (b := 60) (by omega) (by omega)).symm.trans c1)], (RKX.fp RKX.rf (Or.inl rfl)), HKX.f (HSX.same hH b3 (fp_ne (Or.inr (by decide))) (fun k => fp_ne (Or.inl (by decide)))) (by rw [ndr_f ((ndr_in (a := 1) (b := 60) (by omega) (by omega)).symm.trans c1)]; rfl), by unfold m_dwn; rw [ndr_f ((ndr_in (a := 1) (b := 60) (by omega) (by omega)).symm.trans c1)]; exact XS.sd hS b3 (by decide)⟩)
  · skip
    replace c1 := of_decide_eq_false c1
    replace c1 := b2n.mp c1
    obtain ⟨k, hn, hna, hnb, rfl⟩ := ndr_t ((ndr_in (a := 1) (b := 60) (by omega) (by omega)).symm.trans c1)
    refine Pv.aload rfl rfl ?_
    refine Pv.getR (v := .ref 71) rfl rfl (GW.at (a := 69) (k := 6) (b := 71) hG (by decide)) ?_
    refine Pv.lit rfl ?_
    refine Pv.ald (z := Int32.ofNat (t_g T)) rfl ((fp_ne (Or.inl (by decide))).trans (hT.g)) ?_
    refine Pv.if0 rfl (fun c2 => ?_) (fun c2 => ?_)
    · skip
      replace c2 : decide (Int32.ofNat (t_g T) = 0) = false := by simpa using c2
      replace c2 := mt (i_eq (a := t_g T) (b := 0) (by omega) (by omega)).mpr (of_decide_eq_false c2)
      have hg0 : 0 < t_g T := by omega
      refine Pv.aload rfl rfl ?_
      refine Pv.getR (v := .ref 71) rfl rfl (GW.at (a := 69) (k := 6) (b := 71) hG (by decide)) ?_
      refine Pv.lit rfl ?_
      refine Pv.ald (z := Int32.ofNat (h_d S)) rfl ((fp_ne (Or.inl (by decide))).trans (hS.d)) ?_
      refine Pv.lit rfl ?_
      refine Pv.icmp rfl (fun c3 => ?_) (fun c3 => ?_)
      · skip
        replace c3 := (i_le (a := 400) (b := h_d S) (by omega) (by omega)).mp (of_decide_eq_true c3)
        refine Pv.aload rfl rfl ?_
        refine Pv.iload rfl rfl ?_
        refine Pv.iload rfl rfl ?_
        refine Pv.callV (as := [.ref 69, .int (Int32.ofNat k), .int z]) (rest := []) rfl rfl rfl (g_draws (n := k) (hT.fx (P := fun q => q = 69) (((FX.rf (P := fun q => q = 69))).fp rfl) (by decide)) (XS.sd (a := 69) (k := 0) (v := 0) hS b3 (by decide)) (GW.fpp (a := 69) (k := 0) (v := 0) hG) hTB hI (z) hg0 (by omega)) ?_
        rintro _ G4 ⟨rfl, x5, hs6, y7⟩
        have rk8 := RKX.rxs (RKX.fp RKX.rf (Or.inl rfl)) x5
        have hk9 := HSX.same (HSX.same hH b3 (fp_ne (Or.inr (by decide))) (fun k => fp_ne (Or.inl (by decide)))) b3 (x5.2.1 25 (by decide) (by decide)) (fun k => x5.1.1 77 k (by decide))
        refine (show Pv _ _ 49 [some (.ref 69), some (.int (Int32.ofNat k)), some (.int z)] [.int (Int32.ofNat (h_d (m_drawn T (S, z) k).1 - h_d S))] G4 Q from ?_)
        exact Pv.ret rfl (by rw [hQ]; exact ⟨by unfold a_drawn; rw [hn]; dsimp only; rw [if_neg (by omega)]; exact congrArg (fun q => some (Value.int q)) (i_subN (drawn_ge T S z k)).symm, rk8, HKX.f hk9 (by rw [hn, decide_eq_true (show 0 < t_g T by omega)]; exact decide_eq_false (by omega)), by unfold m_dwn; rw [hn]; dsimp only; rw [if_neg (by omega)]; exact hs6⟩)
      · skip
        replace c3 := mt (i_le (a := 400) (b := h_d S) (by omega) (by omega)).mpr (of_decide_eq_false c3)
        refine Pv.aload rfl rfl ?_
        refine Pv.callV (as := [.ref 69]) (rest := []) rfl rfl rfl (g_keep b3 (XS.sd (a := 69) (k := 0) (v := 0) hS b3 (by decide)) (GW.fpp (a := 69) (k := 0) (v := 0) hG) (HSX.same hH b3 (fp_ne (Or.inr (by decide))) (fun k => fp_ne (Or.inl (by decide))))) ?_
        rintro _ G10 ⟨rfl, x11, x12, x13, hk14⟩
        have rk15 := RKX.kp (RKX.fp RKX.rf (Or.inl rfl)) x11 x12 x13
        have hs16 := XS.of (XS.sd (a := 69) (k := 0) (v := 0) hS b3 (by decide)) b3 (fun k _ _ => x12 k)
        have hx17 := RKX.T rk15 hT
        have hx18 := RKX.G rk15 hG
        refine (show Pv _ _ 43 [some (.ref 69), some (.int (Int32.ofNat k)), some (.int z)] [] G10 Q from ?_)
        refine Pv.aload rfl rfl ?_
        refine Pv.iload rfl rfl ?_
        refine Pv.iload rfl rfl ?_
        refine Pv.callV (as := [.ref 69, .int (Int32.ofNat k), .int z]) (rest := []) rfl rfl rfl (g_draws (n := k) hx17 hs16 hx18 hTB hI (z) hg0 (by omega)) ?_
        rintro _ G19 ⟨rfl, x20, hs21, y22⟩
        have rk23 := RKX.rxs rk15 x20
        have hk24 := HSX.same hk14 b3 (x20.2.1 25 (by decide) (by decide)) (fun k => x20.1.1 77 k (by decide))
        refine (show Pv _ _ 49 [some (.ref 69), some (.int (Int32.ofNat k)), some (.int z)] [.int (Int32.ofNat (h_d (m_drawn T (S, z) k).1 - h_d S))] G19 Q from ?_)
        exact Pv.ret rfl (by rw [hQ]; exact ⟨by unfold a_drawn; rw [hn]; dsimp only; rw [if_neg (by omega)]; exact congrArg (fun q => some (Value.int q)) (i_subN (drawn_ge T S z k)).symm, rk23, HKX.t hk24 (by rw [hn, decide_eq_true (show 0 < t_g T by omega)]; exact decide_eq_true (by omega)), by unfold m_dwn; rw [hn]; dsimp only; rw [if_neg (by omega)]; exact hs21⟩)
    · skip
      replace c2 : decide (Int32.ofNat (t_g T) = 0) = true := by simpa using c2
      replace c2 := (i_eq (a := t_g T) (b := 0) (by omega) (by omega)).mp (of_decide_eq_true c2)
      refine Pv.lit rfl ?_
      exact Pv.ret rfl (by rw [hQ]; exact ⟨by unfold a_drawn; rw [hn]; dsimp only; rw [if_pos (by omega)], (RKX.fp RKX.rf (Or.inl rfl)), HKX.f (HSX.same hH b3 (fp_ne (Or.inr (by decide))) (fun k => fp_ne (Or.inl (by decide)))) (by rw [hn, decide_eq_false (show ¬ 0 < t_g T by omega)]; rfl), by unfold m_dwn; rw [hn]; dsimp only; rw [if_pos (by omega)]; exact XS.sd hS b3 (by decide)⟩)
end
-- 63.b69.pure4.lean.txt
section
/-! ===== bytes, and what WHICH wants ===== -/
theorem oct_b (x : Int32) : 0 ≤ (x &&& 255).toInt ∧ (x &&& 255).toInt ≤ 255 := by
  have h : (x &&& 255).toBitVec.toNat ≤ 255 := by
    show (x.toBitVec &&& 255#32).toNat ≤ 255
    rw [BitVec.toNat_and]
    exact Nat.and_le_right
  have e : (x &&& 255).toInt = ((x &&& 255).toBitVec.toNat : Int) := BitVec.toInt_eq_toNat_of_lt (by omega)
  omega
theorem oct_2 {x : Int32} (h : x &&& 255 ≤ 1) : ∃ s, nd 2 (x &&& 255) = some s ∧ s < 2 ∧ x &&& 255 = Int32.ofNat s := by
  have b := oct_b x
  rw [Int32.le_iff_toInt_le, i_1] at h
  refine nd_t ?_
  unfold nd
  rw [if_pos ⟨b.1, by show _ < (2 : Int); omega⟩]
  rfl
theorem oct_n {x : Int32} (h : ¬ x &&& 255 ≤ 1) : nd 2 (x &&& 255) = none := by
  rw [Int32.le_iff_toInt_le, i_1] at h
  unfold nd
  exact if_neg (fun c => h (by have := c.2; omega))
theorem ndr_y {a b n : Nat} (hn : n < 2147483648) (h : (ndr a b (Int32.ofNat n)).isSome = true) : a ≤ n ∧ n ≤ b := by
  unfold ndr at h
  rw [i_toInt hn] at h
  split at h
  · omega
  · cases h
theorem ndr_z {a b n : Nat} (hn : n < 2147483648) (h : (ndr a b (Int32.ofNat n)).isSome = false) : ¬ (a ≤ n ∧ n ≤ b) := by
  unfold ndr at h
  rw [i_toInt hn] at h
  split at h
  · cases h
  · omega
theorem mx_ge {y : Int32} (h : 0 ≤ y) : ab_max 0 y = y := by
  rw [Int32.le_iff_toInt_le] at h
  rcases mx_c 0 y with ⟨a, e⟩ | ⟨a, e⟩
  · exact e
  · rw [e]
    exact (Int32.toInt_inj.mp (by omega))
theorem mx_lt {y : Int32} (h : ¬ 0 ≤ y) : ab_max 0 y = 0 := by
  rw [Int32.le_iff_toInt_le] at h
  rcases mx_c 0 y with ⟨a, e⟩ | ⟨a, e⟩
  · omega
  · exact e
theorem left_less (T : St) (k : Nat) (x : Int32) : m_less 999 (x + t_a T (36 + k)) - t_a T (24 + k) = m_left T k x := by
  unfold m_left
  rw [less_min]
theorem wh_s {T : St} {j i : Nat} {B : Nat → Int32} (hi : 2 ≤ i) : m_wh T j B (i + 1 - 2) = (m_wh T j B (i - 2) && decide (ab_max 0 (m_left T j (B (i - 1))) = B i)) := by
  rw [show i + 1 - 2 = i - 2 + 1 by omega]
  show (m_wh T j B (i - 2) && decide (ab_max 0 (m_left T j (B (i - 2 + 1))) = B (i - 2 + 2))) = _
  rw [show i - 2 + 1 = i - 1 by omega, show i - 2 + 2 = i by omega]
theorem i_remN {a b : Nat} (ha : a < 2147483648) (hb : b < 2147483648) (h0 : 0 < b) : Int32.ofNat a - Int32.ofNat a / Int32.ofNat b * Int32.ofNat b = Int32.ofNat (a % b) := by
  have e1 : (Int32.ofNat a).toInt = a := i_toInt ha
  have e2 : (Int32.ofNat b).toInt = b := i_toInt hb
  have hm : a % b < b := Nat.mod_lt _ h0
  have hl : a % b ≤ a := Nat.mod_le _ _
  rw [← Int32.toInt_inj, Int32.toInt_sub, Int32.toInt_mul, Int32.toInt_div, e1, e2, i_toInt (by omega)]
  have q : ((a : Int).tdiv b) = ((a / b : Nat) : Int) := by
    rw [Int.tdiv_eq_ediv_of_nonneg (by omega)]
    rfl
  rw [q]
  have hd : a / b * b ≤ a := Nat.div_mul_le_self _ _
  have hd2 : a / b ≤ a := Nat.div_le_self _ _
  have hda := Nat.div_add_mod' a b
  clear q hm
  generalize a % b = r at *
  generalize a / b = q at *
  have b1 : Int.bmod ((q : Nat) : Int) (2 ^ 32) = ((q : Nat) : Int) := Int.bmod_eq_of_le (by omega) (by omega)
  rw [b1]
  have hp : ((q : Nat) : Int) * (b : Int) = ((q * b : Nat) : Int) := by rw [Int.natCast_mul]
  rw [hp]
  generalize q * b = p at *
  have b2 : Int.bmod ((p : Nat) : Int) (2 ^ 32) = ((p : Nat) : Int) := Int.bmod_eq_of_le (by omega) (by omega)
  rw [b2]
  have hs : (a : Int) - ((p : Nat) : Int) = ((r : Nat) : Int) := by omega
  rw [hs]
  exact Int.bmod_eq_of_le (by omega) (by omega)
theorem RT.lay {F G K : FW} (h : RT F G) (x : FX (fun q => q = 79) G K) : RT F K :=
  ⟨h.1.tr (x.wd fun q (c : q = 79) => Or.inr (Or.inr (Or.inr c))), fun k hk => (x.1 78 k (by decide)).trans (h.2.1 k hk), fun k hk => (x.1 71 k (by decide)).trans (h.2.2.1 k hk), fun k h1 h2 h3 => (x.1 69 k (by decide)).trans (h.2.2.2 k h1 h2 h3)⟩
theorem nd_in2 {n m : Nat} {x : Int32} (hn : n = m + 1) (hm : n < 2147483648) : (decide (0 ≤ x) && decide (x ≤ Int32.ofNat m)) = (nd n x).isSome := by
  subst hn
  rw [← nd_in hm, show Int32.ofNat (m + 1) - 1 = Int32.ofNat m from i_subN (a := m + 1) (b := 1) (by omega)]
theorem nd_54 {w : Int32} (h : nd 5 w = none) : ¬ w = 4 := fun c => by
  rw [c] at h
  exact absurd h (by decide)
theorem nd_53 {w : Int32} (h : nd 5 w = none) : nd 4 w = none := by
  cases e : nd 4 w with
  | none => rfl
  | some k =>
    obtain ⟨a, rfl⟩ := nd_some e
    rw [nd_of (by omega) (by decide)] at h
    cases h
end
-- 63.b69a.lean.txt
section
set_option maxRecDepth 100000 in
set_option maxHeartbeats 4000000 in
theorem q_which {F : FW} {T : St} {S : Sh} (hT : XT F T) (hS : XS F (t_m T) S) (hG : GW F) {n : Nat} (hn : F.1 69 2 = Int32.ofNat n) (hn9 : n ≤ 940) : Pm Z_X11_which [.ref 69] F (fun r F' => r = some (.int (a_which T n (fun q => F.1 70 q &&& 255))) ∧ F' = fp (fp (fp (fp (fp F 69 0 0) 69 3 (Int32.ofNat n)) 69 2 0) 69 4 0) 69 5 940) := by
  refine Pm.of fun N => ?_
  obtain ⟨Q, hQ⟩ : ∃ Q : Option Value → FW → Prop, Q = (fun r F' => r = some (.int (a_which T n (fun q => F.1 70 q &&& 255))) ∧ F' = fp (fp (fp (fp (fp F 69 0 0) 69 3 (Int32.ofNat n)) 69 2 0) 69 4 0) 69 5 940) := ⟨_, rfl⟩
  rw [← hQ]
  have b3 := hT.mb
  have b4 := hT.nb
  have b5 := hT.gb
  have b6 := m_from_lt S
  have b7 := hS.db
  refine (show Pv (ab_T (L_X11_which Z_X11_taken Z_X11_isIn Z_X11_octet Z_X11_cell Z_X11_lesser)) N 0 [some (.ref 69), none, none, none, none, none, none] [] F Q from ?_)
  refine Pv.aload rfl rfl ?_
  refine Pv.lit rfl ?_
  refine Pv.putI rfl rfl ?_
  refine Pv.aload rfl rfl ?_
  refine Pv.lit rfl ?_
  refine Pv.callV (as := [.ref 69, .int 940]) (rest := []) (Q' := (fun r F' => Pv (ab_T (L_X11_which Z_X11_taken Z_X11_isIn Z_X11_octet Z_X11_cell Z_X11_lesser)) N 12 [some (.ref 69), none, none, none, none, none, none] (r.toList ++ []) F' Q)) rfl rfl rfl ?_ (fun r F' h => h)
  refine Pm.of fun N2 => ?_
  obtain ⟨Q1, hQ1⟩ : ∃ Qx : Option Value → FW → Prop, Qx = (fun r F' => Pv (ab_T (L_X11_which Z_X11_taken Z_X11_isIn Z_X11_octet Z_X11_cell Z_X11_lesser)) N 12 [some (.ref 69), none, none, none, none, none, none] (r.toList ++ []) F' Q) := ⟨_, rfl⟩
  rw [← hQ1]
  refine (show Pv (ab_T L_X11_taken) N2 0 [some (.ref 69), some (.int 940)] [] (fp F 69 0 0) Q1 from ?_)
  refine Pv.aload rfl rfl ?_
  refine Pv.aload rfl rfl ?_
  refine Pv.getI (z := Int32.ofNat n) rfl rfl ((fp_ne (Or.inr (by decide))).trans (hn)) ?_
  refine Pv.putI rfl rfl ?_
  refine Pv.aload rfl rfl ?_
  refine Pv.lit rfl ?_
  refine Pv.putI rfl rfl ?_
  refine Pv.aload rfl rfl ?_
  refine Pv.lit rfl ?_
  refine Pv.putI rfl rfl ?_
  refine Pv.aload rfl rfl ?_
  refine Pv.iload rfl rfl ?_
  refine Pv.putI rfl rfl ?_
  refine Pv.vret rfl ?_
  rw [hQ1]
  refine (show Pv (ab_T (L_X11_which Z_X11_taken Z_X11_isIn Z_X11_octet Z_X11_cell Z_X11_lesser)) N 12 [some (.ref 69), none, none, none, none, none, none] [] (fp (fp (fp (fp (fp F 69 0 0) 69 3 (Int32.ofNat n)) 69 2 0) 69 4 0) 69 5 940) Q from ?_)
  refine Pv.aload rfl rfl ?_
  refine Pv.getI (z := Int32.ofNat n) rfl rfl ((fp_ne (Or.inr (by decide))).trans ((fp_ne (Or.inr (by decide))).trans ((fp_ne (Or.inr (by decide))).trans (fp_eq)))) ?_
  refine Pv.lit rfl ?_
  refine Pv.lit rfl ?_
  refine Pv.callI (as := [.int (Int32.ofNat n), .int 3, .int 31]) (rest := []) (z := b2i (decide (3 ≤ (Int32.ofNat n)) && decide ((Int32.ofNat n) ≤ 31))) rfl rfl rfl (q_isIn (Int32.ofNat n) 3 31) ?_
  refine Pv.if0 rfl (fun c3 => ?_) (fun c3 => ?_)
  · skip
    replace c3 := of_decide_eq_true c3
    replace c3 := b2z.mp c3
    refine Pv.lit rfl ?_
    exact Pv.ret rfl (by rw [hQ]; exact ⟨by unfold a_which; rw [if_neg (ndr_z (by omega) ((ndr_in (a := 3) (b := 31) (by omega) (by omega)).symm.trans c3))], rfl⟩)
  · skip
    replace c3 := of_decide_eq_false c3
    replace c3 := b2n.mp c3
    refine Pv.aload rfl rfl ?_
    refine Pv.lit rfl ?_
    refine Pv.callV (as := [.ref 69, .int 0]) (rest := []) (Q' := (fun r F' => Pv (ab_T (L_X11_which Z_X11_taken Z_X11_isIn Z_X11_octet Z_X11_cell Z_X11_lesser)) N 30 [some (.ref 69), none, none, none, none, none, none] (r.toList ++ []) F' Q)) rfl rfl rfl ?_ (fun r F' h => h)
    refine Pm.of fun N5 => ?_
    obtain ⟨Q4, hQ4⟩ : ∃ Qx : Option Value → FW → Prop, Qx = (fun r F' => Pv (ab_T (L_X11_which Z_X11_taken Z_X11_isIn Z_X11_octet Z_X11_cell Z_X11_lesser)) N 30 [some (.ref 69), none, none, none, none, none, none] (r.toList ++ []) F' Q) := ⟨_, rfl⟩
    rw [← hQ4]
    refine (show Pv (ab_T L_X11_octet) N5 0 [some (.ref 69), some (.int 0)] [] (fp (fp (fp (fp (fp F 69 0 0) 69 3 (Int32.ofNat n)) 69 2 0) 69 4 0) 69 5 940) Q4 from ?_)
    refine Pv.aload rfl rfl ?_
    refine Pv.getR (v := .ref 70) rfl rfl (GW.at (a := 69) (k := 1) (b := 70) hG (by decide)) ?_
    refine Pv.iload rfl rfl ?_
    refine Pv.ald (z := F.1 70 0) rfl ((fp_ne (Or.inl (by decide))).trans ((fp_ne (Or.inl (by decide))).trans ((fp_ne (Or.inl (by decide))).trans ((fp_ne (Or.inl (by decide))).trans (fp_ne (Or.inl (by decide))))))) ?_
    refine Pv.lit rfl ?_
    refine Pv.bin (z := (F.1 70 0) &&& 255) rfl (rfl) ?_
    refine Pv.ret rfl ?_
    rw [hQ4]
    refine (show Pv (ab_T (L_X11_which Z_X11_taken Z_X11_isIn Z_X11_octet Z_X11_cell Z_X11_lesser)) N 30 [some (.ref 69), none, none, none, none, none, none] [.int ((F.1 70 0) &&& 255)] (fp (fp (fp (fp (fp F 69 0 0) 69 3 (Int32.ofNat n)) 69 2 0) 69 4 0) 69 5 940) Q from ?_)
    refine Pv.lit rfl ?_
    refine Pv.icmp rfl (fun c6 => ?_) (fun c6 => ?_)
    · skip
      replace c6 := of_decide_eq_true c6
      obtain ⟨hn3, hn31⟩ := ndr_y (by omega) ((ndr_in (a := 3) (b := 31) (by omega) (by omega)).symm.trans c3)
      obtain ⟨s, hs, hsl, es⟩ := oct_2 c6
      refine Pv.lit rfl ?_
      refine Pv.istore (lo' := [some (.ref 69), some (.int 0), none, none, none, none, none]) rfl rfl ?_
      refine Pv.lit rfl ?_
      refine Pv.istore (lo' := [some (.ref 69), some (.int 0), some (.int 0), none, none, none, none]) rfl rfl ?_
      refine Pv.lp (ι := Nat × Int32 × (Option Value) × (Option Value) × (Option Value) × (Option Value)) (lof := fun ⟨k, b, o7, o8, o9, o10⟩ => [some (.ref 69), some (.int b), some (.int (Int32.ofNat k)), o7, o8, o9, o10]) (Ff := fun ⟨k, b, o7, o8, o9, o10⟩ => (fp (fp (fp (fp (fp F 69 0 0) 69 3 (Int32.ofNat n)) 69 2 0) 69 4 0) 69 5 940)) (P := fun ⟨k, b, o7, o8, o9, o10⟩ => k ≤ t_g T ∧ b = m_bits (fun g => m_wh T (2 * g + s) (fun q => F.1 70 q &&& 255) (n - 2)) id k) ?_ (0, 0, none, none, none, none) (⟨Nat.zero_le _, rfl⟩)
      rintro N11 hN12 ⟨k, b, o7, o8, o9, o10⟩ hi13 ih14
      refine (show Pv _ _ 40 [some (.ref 69), some (.int b), some (.int (Int32.ofNat k)), o7, o8, o9, o10] [] (fp (fp (fp (fp (fp F 69 0 0) 69 3 (Int32.ofNat n)) 69 2 0) 69 4 0) 69 5 940) Q from ?_)
      obtain ⟨hk, hb⟩ := hi13
      refine Pv.iloadS rfl rfl ?_
      refine Pv.aload rfl rfl ?_
      refine Pv.getR (v := .ref 71) rfl rfl (GW.at (a := 69) (k := 6) (b := 71) hG (by decide)) ?_
      refine Pv.lit rfl ?_
      refine Pv.ald (z := Int32.ofNat (t_g T)) rfl ((fp_ne (Or.inl (by decide))).trans ((fp_ne (Or.inl (by decide))).trans ((fp_ne (Or.inl (by decide))).trans ((fp_ne (Or.inl (by decide))).trans ((fp_ne (Or.inl (by decide))).trans (hT.g)))))) ?_
      refine Pv.icmp rfl (fun c15 => ?_) (fun c15 => ?_)
      · skip
        replace c15 := (i_le (a := t_g T) (b := k) (by omega) (by omega)).mp (of_decide_eq_true c15)
        refine Pv.iload rfl rfl ?_
        exact Pv.ret rfl (by rw [hQ]; exact ⟨by unfold a_which; rw [if_pos ⟨hn3, hn31⟩, hs]; dsimp only; rw [hb, show k = t_g T by omega], rfl⟩)
      · skip
        replace c15 := mt (i_le (a := t_g T) (b := k) (by omega) (by omega)).mpr (of_decide_eq_false c15)
        refine Pv.iload rfl rfl ?_
        refine Pv.aload rfl rfl ?_
        refine Pv.lit rfl ?_
        refine Pv.callV (as := [.ref 69, .int 0]) (rest := [.int (Int32.ofNat k)]) (Q' := (fun r F' => Pv (ab_T (L_X11_which Z_X11_taken Z_X11_isIn Z_X11_octet Z_X11_cell Z_X11_lesser)) N11 56 [some (.ref 69), some (.int b), some (.int (Int32.ofNat k)), o7, o8, o9, o10] (r.toList ++ [.int (Int32.ofNat k)]) F' Q)) rfl rfl rfl ?_ (fun r F' h => h)
        refine Pm.of fun N17 => ?_
        obtain ⟨Q16, hQ16⟩ : ∃ Qx : Option Value → FW → Prop, Qx = (fun r F' => Pv (ab_T (L_X11_which Z_X11_taken Z_X11_isIn Z_X11_octet Z_X11_cell Z_X11_lesser)) N11 56 [some (.ref 69), some (.int b), some (.int (Int32.ofNat k)), o7, o8, o9, o10] (r.toList ++ [.int (Int32.ofNat k)]) F' Q) := ⟨_, rfl⟩
        rw [← hQ16]
        refine (show Pv (ab_T L_X11_octet) N17 0 [some (.ref 69), some (.int 0)] [] (fp (fp (fp (fp (fp F 69 0 0) 69 3 (Int32.ofNat n)) 69 2 0) 69 4 0) 69 5 940) Q16 from ?_)
        refine Pv.aload rfl rfl ?_
        refine Pv.getR (v := .ref 70) rfl rfl (GW.at (a := 69) (k := 1) (b := 70) hG (by decide)) ?_
        refine Pv.iload rfl rfl ?_
        refine Pv.ald (z := F.1 70 0) rfl ((fp_ne (Or.inl (by decide))).trans ((fp_ne (Or.inl (by decide))).trans ((fp_ne (Or.inl (by decide))).trans ((fp_ne (Or.inl (by decide))).trans (fp_ne (Or.inl (by decide))))))) ?_
        refine Pv.lit rfl ?_
        refine Pv.bin (z := (F.1 70 0) &&& 255) rfl (rfl) ?_
        refine Pv.ret rfl ?_
        rw [hQ16]
        refine (show Pv (ab_T (L_X11_which Z_X11_taken Z_X11_isIn Z_X11_octet Z_X11_cell Z_X11_lesser)) N11 56 [some (.ref 69), some (.int b), some (.int (Int32.ofNat k)), o7, o8, o9, o10] [.int ((F.1 70 0) &&& 255), .int (Int32.ofNat k)] (fp (fp (fp (fp (fp F 69 0 0) 69 3 (Int32.ofNat n)) 69 2 0) 69 4 0) 69 5 940) Q from ?_)
        rw [show ((F.1 70 0) &&& 255) = Int32.ofNat s from es]
        refine Pv.callI (as := [.int (Int32.ofNat k), .int (Int32.ofNat s)]) (rest := []) (z := Int32.ofNat (2 * k + s)) rfl rfl rfl (g_cell (g := k) (s := s)) ?_
        refine Pv.istore (lo' := [some (.ref 69), some (.int b), some (.int (Int32.ofNat k)), some (.int (Int32.ofNat (2 * k + s))), o8, o9, o10]) rfl rfl ?_
        refine Pv.lit rfl ?_
        refine Pv.istore (lo' := [some (.ref 69), some (.int b), some (.int (Int32.ofNat k)), some (.int (Int32.ofNat (2 * k + s))), some (.int 1), o9, o10]) rfl rfl ?_
        refine Pv.lit rfl ?_
        refine Pv.istore (lo' := [some (.ref 69), some (.int b), some (.int (Int32.ofNat k)), some (.int (Int32.ofNat (2 * k + s))), some (.int 1), some (.int 2), o10]) rfl rfl ?_
        refine Pv.lp (ι := Nat × Int32 × (Option Value)) (lof := fun ⟨i, w, o18⟩ => [some (.ref 69), some (.int b), some (.int (Int32.ofNat k)), some (.int (Int32.ofNat (2 * k + s))), some (.int w), some (.int (Int32.ofNat i)), o18]) (Ff := fun ⟨i, w, o18⟩ => (fp (fp (fp (fp (fp F 69 0 0) 69 3 (Int32.ofNat n)) 69 2 0) 69 4 0) 69 5 940)) (P := fun ⟨i, w, o18⟩ => 2 ≤ i ∧ i ≤ n ∧ w = b2i (m_wh T (2 * k + s) (fun q => F.1 70 q &&& 255) (i - 2))) ?_ (2, 1, o10) (⟨Nat.le_refl _, by omega, rfl⟩)
        rintro N19 hN20 ⟨i, w, o18⟩ hi21 ih22
        refine (show Pv _ _ 66 [some (.ref 69), some (.int b), some (.int (Int32.ofNat k)), some (.int (Int32.ofNat (2 * k + s))), some (.int w), some (.int (Int32.ofNat i)), o18] [] (fp (fp (fp (fp (fp F 69 0 0) 69 3 (Int32.ofNat n)) 69 2 0) 69 4 0) 69 5 940) Q from ?_)
        obtain ⟨hi2, hin, hw⟩ := hi21
        refine Pv.iloadS rfl rfl ?_
        refine Pv.aload rfl rfl ?_
        refine Pv.getI (z := Int32.ofNat n) rfl rfl ((fp_ne (Or.inr (by decide))).trans ((fp_ne (Or.inr (by decide))).trans ((fp_ne (Or.inr (by decide))).trans (fp_eq)))) ?_
        refine Pv.icmp rfl (fun c23 => ?_) (fun c23 => ?_)
        · skip
          replace c23 := (i_le (a := n) (b := i) (by omega) (by omega)).mp (of_decide_eq_true c23)
          refine Pv.iload rfl rfl ?_
          refine Pv.iload rfl rfl ?_
          refine Pv.if0 rfl (fun c24 => ?_) (fun c24 => ?_)
          · skip
            replace c24 := of_decide_eq_true c24
            refine Pv.lit rfl ?_
            refine Pv.bin (z := b ||| 0) rfl (rfl) ?_
            refine Pv.istore (lo' := [some (.ref 69), some (.int (b ||| 0)), some (.int (Int32.ofNat k)), some (.int (Int32.ofNat (2 * k + s))), some (.int w), some (.int (Int32.ofNat i)), o18]) rfl rfl ?_
            refine Pv.iinc (y := Int32.ofNat (k + 1)) (lo' := [some (.ref 69), some (.int (b ||| 0)), some (.int (Int32.ofNat (k + 1))), some (.int (Int32.ofNat (2 * k + s))), some (.int w), some (.int (Int32.ofNat i)), o18]) rfl rfl (i_add k 1) rfl ?_
            refine Pv.goto rfl ?_
            exact (ih14 (k + 1, b ||| 0, (some (.int (Int32.ofNat (2 * k + s)))), (some (.int w)), (some (.int (Int32.ofNat i))), o18) (⟨by omega, by rw [m_bits_f (f := (fun g => m_wh T (2 * g + s) (fun q => F.1 70 q &&& 255) (n - 2))) (g := id) (k := k) (by show m_wh T (2 * k + s) (fun q => F.1 70 q &&& 255) (n - 2) = _; rw [show n - 2 = i - 2 by omega]; exact b2z.mp (hw.symm.trans c24)), ← hb]; exact i_or0 _⟩)).mono (by omega)
          · skip
            replace c24 := of_decide_eq_false c24
            refine Pv.lit rfl ?_
            refine Pv.iload rfl rfl ?_
            refine Pv.bin (z := 1 <<< ((Int32.ofNat k) &&& 31)) rfl (rfl) ?_
            refine Pv.goto rfl ?_
            refine Pv.bin (z := b ||| (1 <<< ((Int32.ofNat k) &&& 31))) rfl (rfl) ?_
            refine Pv.istore (lo' := [some (.ref 69), some (.int (b ||| (1 <<< ((Int32.ofNat k) &&& 31)))), some (.int (Int32.ofNat k)), some (.int (Int32.ofNat (2 * k + s))), some (.int w), some (.int (Int32.ofNat i)), o18]) rfl rfl ?_
            refine Pv.iinc (y := Int32.ofNat (k + 1)) (lo' := [some (.ref 69), some (.int (b ||| (1 <<< ((Int32.ofNat k) &&& 31)))), some (.int (Int32.ofNat (k + 1))), some (.int (Int32.ofNat (2 * k + s))), some (.int w), some (.int (Int32.ofNat i)), o18]) rfl rfl (i_add k 1) rfl ?_
            refine Pv.goto rfl ?_
            exact (ih14 (k + 1, b ||| (1 <<< ((Int32.ofNat k) &&& 31)), (some (.int (Int32.ofNat (2 * k + s)))), (some (.int w)), (some (.int (Int32.ofNat i))), o18) (⟨by omega, by rw [m_bits_t (f := (fun g => m_wh T (2 * g + s) (fun q => F.1 70 q &&& 255) (n - 2))) (g := id) (k := k) (by show m_wh T (2 * k + s) (fun q => F.1 70 q &&& 255) (n - 2) = _; rw [show n - 2 = i - 2 by omega]; exact b2n.mp (fun z => c24 (hw.trans z))), hb]; rfl⟩)).mono (by omega)
        · skip
          replace c23 := mt (i_le (a := n) (b := i) (by omega) (by omega)).mpr (of_decide_eq_false c23)
          refine Pv.lit rfl ?_
          refine Pv.aload rfl rfl ?_
          refine Pv.iload rfl rfl ?_
          refine Pv.lit rfl ?_
          refine Pv.bin (z := Int32.ofNat (i - 1)) rfl (i_subN (a := i) (b := 1) (by omega)) ?_
          refine Pv.callV (as := [.ref 69, .int (Int32.ofNat (i - 1))]) (rest := [.int 999]) (Q' := (fun r F' => Pv (ab_T (L_X11_which Z_X11_taken Z_X11_isIn Z_X11_octet Z_X11_cell Z_X11_lesser)) N19 86 [some (.ref 69), some (.int b), some (.int (Int32.ofNat k)), some (.int (Int32.ofNat (2 * k + s))), some (.int w), some (.int (Int32.ofNat i)), o18] (r.toList ++ [.int 999]) F' Q)) rfl rfl rfl ?_ (fun r F' h => h)
          refine Pm.of fun N26 => ?_
          obtain ⟨Q25, hQ25⟩ : ∃ Qx : Option Value → FW → Prop, Qx = (fun r F' => Pv (ab_T (L_X11_which Z_X11_taken Z_X11_isIn Z_X11_octet Z_X11_cell Z_X11_lesser)) N19 86 [some (.ref 69), some (.int b), some (.int (Int32.ofNat k)), some (.int (Int32.ofNat (2 * k + s))), some (.int w), some (.int (Int32.ofNat i)), o18] (r.toList ++ [.int 999]) F' Q) := ⟨_, rfl⟩
          rw [← hQ25]
          refine (show Pv (ab_T L_X11_octet) N26 0 [some (.ref 69), some (.int (Int32.ofNat (i - 1)))] [] (fp (fp (fp (fp (fp F 69 0 0) 69 3 (Int32.ofNat n)) 69 2 0) 69 4 0) 69 5 940) Q25 from ?_)
          refine Pv.aload rfl rfl ?_
          refine Pv.getR (v := .ref 70) rfl rfl (GW.at (a := 69) (k := 1) (b := 70) hG (by decide)) ?_
          refine Pv.iload rfl rfl ?_
          refine Pv.ald (z := F.1 70 (i - 1)) rfl (by rw [i_toNat (by omega)]; exact (fp_ne (Or.inl (by decide))).trans ((fp_ne (Or.inl (by decide))).trans ((fp_ne (Or.inl (by decide))).trans ((fp_ne (Or.inl (by decide))).trans (fp_ne (Or.inl (by decide))))))) ?_
          refine Pv.lit rfl ?_
          refine Pv.bin (z := (F.1 70 (i - 1)) &&& 255) rfl (rfl) ?_
          refine Pv.ret rfl ?_
          rw [hQ25]
          refine (show Pv (ab_T (L_X11_which Z_X11_taken Z_X11_isIn Z_X11_octet Z_X11_cell Z_X11_lesser)) N19 86 [some (.ref 69), some (.int b), some (.int (Int32.ofNat k)), some (.int (Int32.ofNat (2 * k + s))), some (.int w), some (.int (Int32.ofNat i)), o18] [.int ((F.1 70 (i - 1)) &&& 255), .int 999] (fp (fp (fp (fp (fp F 69 0 0) 69 3 (Int32.ofNat n)) 69 2 0) 69 4 0) 69 5 940) Q from ?_)
          refine Pv.aload rfl rfl ?_
          refine Pv.getR (v := .ref 71) rfl rfl (GW.at (a := 69) (k := 6) (b := 71) hG (by decide)) ?_
          refine Pv.lit rfl ?_
          refine Pv.iload rfl rfl ?_
          refine Pv.bin (z := Int32.ofNat (40 + (2 * k + s))) rfl (i_add 40 (2 * k + s)) ?_
          refine Pv.ald (z := t_a T (36 + (2 * k + s))) rfl (by rw [i_toNat (by omega)]; exact (fp_ne (Or.inl (by decide))).trans ((fp_ne (Or.inl (by decide))).trans ((fp_ne (Or.inl (by decide))).trans ((fp_ne (Or.inl (by decide))).trans ((fp_ne (Or.inl (by decide))).trans (hT.k _ (by omega))))))) ?_
          refine Pv.bin (z := ((F.1 70 (i - 1)) &&& 255) + (t_a T (36 + (2 * k + s)))) rfl (rfl) ?_
          refine Pv.callI (as := [.int 999, .int (((F.1 70 (i - 1)) &&& 255) + (t_a T (36 + (2 * k + s))))]) (rest := []) (z := m_less 999 (((F.1 70 (i - 1)) &&& 255) + (t_a T (36 + (2 * k + s))))) rfl rfl rfl (g_lesser (x := 999) (y := ((F.1 70 (i - 1)) &&& 255) + (t_a T (36 + (2 * k + s))))) ?_
          refine Pv.aload rfl rfl ?_
          refine Pv.getR (v := .ref 71) rfl rfl (GW.at (a := 69) (k := 6) (b := 71) hG (by decide)) ?_
          refine Pv.lit rfl ?_
          refine Pv.iload rfl rfl ?_
          refine Pv.bin (z := Int32.ofNat (28 + (2 * k + s))) rfl (i_add 28 (2 * k + s)) ?_
          refine Pv.ald (z := t_a T (24 + (2 * k + s))) rfl (by rw [i_toNat (by omega)]; exact (fp_ne (Or.inl (by decide))).trans ((fp_ne (Or.inl (by decide))).trans ((fp_ne (Or.inl (by decide))).trans ((fp_ne (Or.inl (by decide))).trans ((fp_ne (Or.inl (by decide))).trans (hT.e _ (by omega))))))) ?_
          refine Pv.bin (z := (m_less 999 (((F.1 70 (i - 1)) &&& 255) + (t_a T (36 + (2 * k + s))))) - (t_a T (24 + (2 * k + s)))) rfl (rfl) ?_
          rw [show ((m_less 999 (((F.1 70 (i - 1)) &&& 255) + (t_a T (36 + (2 * k + s))))) - (t_a T (24 + (2 * k + s)))) = m_left T (2 * k + s) ((fun q => F.1 70 q &&& 255) (i - 1)) from left_less T (2 * k + s) _]
          refine Pv.istore (lo' := [some (.ref 69), some (.int b), some (.int (Int32.ofNat k)), some (.int (Int32.ofNat (2 * k + s))), some (.int w), some (.int (Int32.ofNat i)), some (.int (m_left T (2 * k + s) ((fun q => F.1 70 q &&& 255) (i - 1))))]) rfl rfl ?_
          refine Pv.iload rfl rfl ?_
          refine Pv.if0 rfl (fun c27 => ?_) (fun c27 => ?_)
          · skip
            replace c27 := of_decide_eq_true c27
            refine Pv.lit rfl ?_
            refine Pv.istore (lo' := [some (.ref 69), some (.int b), some (.int (Int32.ofNat k)), some (.int (Int32.ofNat (2 * k + s))), some (.int 0), some (.int (Int32.ofNat i)), some (.int (m_left T (2 * k + s) ((fun q => F.1 70 q &&& 255) (i - 1))))]) rfl rfl ?_
            refine Pv.iinc (y := Int32.ofNat (i + 1)) (lo' := [some (.ref 69), some (.int b), some (.int (Int32.ofNat k)), some (.int (Int32.ofNat (2 * k + s))), some (.int 0), some (.int (Int32.ofNat (i + 1))), some (.int (m_left T (2 * k + s) ((fun q => F.1 70 q &&& 255) (i - 1))))]) rfl rfl (i_add i 1) rfl ?_
            refine Pv.goto rfl ?_
            exact ih22 (i + 1, 0, (some (.int (m_left T (2 * k + s) ((fun q => F.1 70 q &&& 255) (i - 1)))))) (⟨by omega, by omega, by rw [wh_s (by omega), b2z.mp (hw.symm.trans c27), Bool.false_and]; rfl⟩)
          · skip
            replace c27 := of_decide_eq_false c27
            refine Pv.aload rfl rfl ?_
            refine Pv.iload rfl rfl ?_
            refine Pv.callV (as := [.ref 69, .int (Int32.ofNat i)]) (rest := []) (Q' := (fun r F' => Pv (ab_T (L_X11_which Z_X11_taken Z_X11_isIn Z_X11_octet Z_X11_cell Z_X11_lesser)) N19 122 [some (.ref 69), some (.int b), some (.int (Int32.ofNat k)), some (.int (Int32.ofNat (2 * k + s))), some (.int w), some (.int (Int32.ofNat i)), some (.int (m_left T (2 * k + s) ((fun q => F.1 70 q &&& 255) (i - 1))))] (r.toList ++ []) F' Q)) rfl rfl rfl ?_ (fun r F' h => h)
            refine Pm.of fun N29 => ?_
            obtain ⟨Q28, hQ28⟩ : ∃ Qx : Option Value → FW → Prop, Qx = (fun r F' => Pv (ab_T (L_X11_which Z_X11_taken Z_X11_isIn Z_X11_octet Z_X11_cell Z_X11_lesser)) N19 122 [some (.ref 69), some (.int b), some (.int (Int32.ofNat k)), some (.int (Int32.ofNat (2 * k + s))), some (.int w), some (.int (Int32.ofNat i)), some (.int (m_left T (2 * k + s) ((fun q => F.1 70 q &&& 255) (i - 1))))] (r.toList ++ []) F' Q) := ⟨_, rfl⟩
            rw [← hQ28]
            refine (show Pv (ab_T L_X11_octet) N29 0 [some (.ref 69), some (.int (Int32.ofNat i))] [] (fp (fp (fp (fp (fp F 69 0 0) 69 3 (Int32.ofNat n)) 69 2 0) 69 4 0) 69 5 940) Q28 from ?_)
            refine Pv.aload rfl rfl ?_
            refine Pv.getR (v := .ref 70) rfl rfl (GW.at (a := 69) (k := 1) (b := 70) hG (by decide)) ?_
            refine Pv.iload rfl rfl ?_
            refine Pv.ald (z := F.1 70 i) rfl (by rw [i_toNat (by omega)]; exact (fp_ne (Or.inl (by decide))).trans ((fp_ne (Or.inl (by decide))).trans ((fp_ne (Or.inl (by decide))).trans ((fp_ne (Or.inl (by decide))).trans (fp_ne (Or.inl (by decide))))))) ?_
            refine Pv.lit rfl ?_
            refine Pv.bin (z := (F.1 70 i) &&& 255) rfl (rfl) ?_
            refine Pv.ret rfl ?_
            rw [hQ28]
            refine (show Pv (ab_T (L_X11_which Z_X11_taken Z_X11_isIn Z_X11_octet Z_X11_cell Z_X11_lesser)) N19 122 [some (.ref 69), some (.int b), some (.int (Int32.ofNat k)), some (.int (Int32.ofNat (2 * k + s))), some (.int w), some (.int (Int32.ofNat i)), some (.int (m_left T (2 * k + s) ((fun q => F.1 70 q &&& 255) (i - 1))))] [.int ((F.1 70 i) &&& 255)] (fp (fp (fp (fp (fp F 69 0 0) 69 3 (Int32.ofNat n)) 69 2 0) 69 4 0) 69 5 940) Q from ?_)
            refine Pv.iload rfl rfl ?_
            refine Pv.if0 rfl (fun c30 => ?_) (fun c30 => ?_)
            · skip
              replace c30 := of_decide_eq_true c30
              refine Pv.iload rfl rfl ?_
              refine Pv.icmp rfl (fun c31 => ?_) (fun c31 => ?_)
              · skip
                replace c31 : decide ((F.1 70 i) &&& 255 = m_left T (2 * k + s) ((fun q => F.1 70 q &&& 255) (i - 1))) = false := by simpa using c31
                replace c31 := of_decide_eq_false c31
                refine Pv.lit rfl ?_
                refine Pv.istore (lo' := [some (.ref 69), some (.int b), some (.int (Int32.ofNat k)), some (.int (Int32.ofNat (2 * k + s))), some (.int 0), some (.int (Int32.ofNat i)), some (.int (m_left T (2 * k + s) ((fun q => F.1 70 q &&& 255) (i - 1))))]) rfl rfl ?_
                refine Pv.iinc (y := Int32.ofNat (i + 1)) (lo' := [some (.ref 69), some (.int b), some (.int (Int32.ofNat k)), some (.int (Int32.ofNat (2 * k + s))), some (.int 0), some (.int (Int32.ofNat (i + 1))), some (.int (m_left T (2 * k + s) ((fun q => F.1 70 q &&& 255) (i - 1))))]) rfl rfl (i_add i 1) rfl ?_
                refine Pv.goto rfl ?_
                exact ih22 (i + 1, 0, (some (.int (m_left T (2 * k + s) ((fun q => F.1 70 q &&& 255) (i - 1)))))) (⟨by omega, by omega, by rw [wh_s (by omega), b2n.mp (fun z => c27 (hw.trans z)), mx_ge c30, Bool.true_and]; exact (congrArg b2i (decide_eq_false (fun z => c31 (Eq.symm z)))).symm⟩)
              · skip
                replace c31 : decide ((F.1 70 i) &&& 255 = m_left T (2 * k + s) ((fun q => F.1 70 q &&& 255) (i - 1))) = true := by simpa using c31
                replace c31 := of_decide_eq_true c31
                refine Pv.lit rfl ?_
                refine Pv.goto rfl ?_
                refine Pv.istore (lo' := [some (.ref 69), some (.int b), some (.int (Int32.ofNat k)), some (.int (Int32.ofNat (2 * k + s))), some (.int 1), some (.int (Int32.ofNat i)), some (.int (m_left T (2 * k + s) ((fun q => F.1 70 q &&& 255) (i - 1))))]) rfl rfl ?_
                refine Pv.iinc (y := Int32.ofNat (i + 1)) (lo' := [some (.ref 69), some (.int b), some (.int (Int32.ofNat k)), some (.int (Int32.ofNat (2 * k + s))), some (.int 1), some (.int (Int32.ofNat (i + 1))), some (.int (m_left T (2 * k + s) ((fun q => F.1 70 q &&& 255) (i - 1))))]) rfl rfl (i_add i 1) rfl ?_
                refine Pv.goto rfl ?_
                exact ih22 (i + 1, 1, (some (.int (m_left T (2 * k + s) ((fun q => F.1 70 q &&& 255) (i - 1)))))) (⟨by omega, by omega, by rw [wh_s (by omega), b2n.mp (fun z => c27 (hw.trans z)), mx_ge c30, Bool.true_and]; exact (congrArg b2i (decide_eq_true (Eq.symm c31))).symm⟩)
            · skip
              replace c30 := of_decide_eq_false c30
              refine Pv.lit rfl ?_
              refine Pv.goto rfl ?_
              refine Pv.icmp rfl (fun c32 => ?_) (fun c32 => ?_)
              · skip
                replace c32 : decide ((F.1 70 i) &&& 255 = 0) = false := by simpa using c32
                replace c32 := of_decide_eq_false c32
                refine Pv.lit rfl ?_
                refine Pv.istore (lo' := [some (.ref 69), some (.int b), some (.int (Int32.ofNat k)), some (.int (Int32.ofNat (2 * k + s))), some (.int 0), some (.int (Int32.ofNat i)), some (.int (m_left T (2 * k + s) ((fun q => F.1 70 q &&& 255) (i - 1))))]) rfl rfl ?_
                refine Pv.iinc (y := Int32.ofNat (i + 1)) (lo' := [some (.ref 69), some (.int b), some (.int (Int32.ofNat k)), some (.int (Int32.ofNat (2 * k + s))), some (.int 0), some (.int (Int32.ofNat (i + 1))), some (.int (m_left T (2 * k + s) ((fun q => F.1 70 q &&& 255) (i - 1))))]) rfl rfl (i_add i 1) rfl ?_
                refine Pv.goto rfl ?_
                exact ih22 (i + 1, 0, (some (.int (m_left T (2 * k + s) ((fun q => F.1 70 q &&& 255) (i - 1)))))) (⟨by omega, by omega, by rw [wh_s (by omega), b2n.mp (fun z => c27 (hw.trans z)), mx_lt c30, Bool.true_and]; exact (congrArg b2i (decide_eq_false (fun z => c32 (Eq.symm z)))).symm⟩)
              · skip
                replace c32 : decide ((F.1 70 i) &&& 255 = 0) = true := by simpa using c32
                replace c32 := of_decide_eq_true c32
                refine Pv.lit rfl ?_
                refine Pv.goto rfl ?_
                refine Pv.istore (lo' := [some (.ref 69), some (.int b), some (.int (Int32.ofNat k)), some (.int (Int32.ofNat (2 * k + s))), some (.int 1), some (.int (Int32.ofNat i)), some (.int (m_left T (2 * k + s) ((fun q => F.1 70 q &&& 255) (i - 1))))]) rfl rfl ?_
                refine Pv.iinc (y := Int32.ofNat (i + 1)) (lo' := [some (.ref 69), some (.int b), some (.int (Int32.ofNat k)), some (.int (Int32.ofNat (2 * k + s))), some (.int 1), some (.int (Int32.ofNat (i + 1))), some (.int (m_left T (2 * k + s) ((fun q => F.1 70 q &&& 255) (i - 1))))]) rfl rfl (i_add i 1) rfl ?_
                refine Pv.goto rfl ?_
                exact ih22 (i + 1, 1, (some (.int (m_left T (2 * k + s) ((fun q => F.1 70 q &&& 255) (i - 1)))))) (⟨by omega, by omega, by rw [wh_s (by omega), b2n.mp (fun z => c27 (hw.trans z)), mx_lt c30, Bool.true_and]; exact (congrArg b2i (decide_eq_true (Eq.symm c32))).symm⟩)
    · skip
      replace c6 := of_decide_eq_false c6
      refine Pv.lit rfl ?_
      exact Pv.ret rfl (by rw [hQ]; exact ⟨by unfold a_which; rw [if_pos (ndr_y (by omega) ((ndr_in (a := 3) (b := 31) (by omega) (by omega)).symm.trans c3)), oct_n c6], rfl⟩)
set_option maxRecDepth 100000 in
set_option maxHeartbeats 4000000 in
theorem o_looksLike {F : FW} {p r : Nat} (hp : O7 F p) (hr : O7 F r) : Pm Z_X6_looksLike [.ref p, .ref r] F (fun r F' => (∃ z, r = some (.int z)) ∧ F' = F) := by
  refine Pm.of fun N => ?_
  obtain ⟨Q, hQ⟩ : ∃ Q : Option Value → FW → Prop, Q = (fun r F' => (∃ z, r = some (.int z)) ∧ F' = F) := ⟨_, rfl⟩
  rw [← hQ]
  refine (show Pv (ab_T L_X6_looksLike) N 0 [some (.ref p), some (.ref r), none] [] F Q from ?_)
  refine Pv.lit rfl ?_
  refine Pv.istore (lo' := [some (.ref p), some (.ref r), some (.int 0)]) rfl rfl ?_
  refine Pv.lp (ι := Nat) (lof := fun k => [some (.ref p), some (.ref r), some (.int (Int32.ofNat k))]) (Ff := fun k => F) (P := fun k => k ≤ 12) ?_ 0 (Nat.zero_le _)
  rintro N1 hN2 k hi3 ih4
  refine (show Pv _ _ 2 [some (.ref p), some (.ref r), some (.int (Int32.ofNat k))] [] F Q from ?_)
  have hk := hi3
  refine Pv.iloadS rfl rfl ?_
  refine Pv.lit rfl ?_
  refine Pv.icmp rfl (fun c5 => ?_) (fun c5 => ?_)
  · skip
    replace c5 := (i_le (a := 12) (b := k) (by omega) (by omega)).mp (of_decide_eq_true c5)
    refine Pv.lit rfl ?_
    refine Pv.istore (lo' := [some (.ref p), some (.ref r), some (.int 0)]) rfl rfl ?_
    refine Pv.lp (ι := Nat) (lof := fun k => [some (.ref p), some (.ref r), some (.int (Int32.ofNat k))]) (Ff := fun k => F) (P := fun k => k ≤ 8) ?_ 0 (Nat.zero_le _)
    rintro N6 hN7 k hi8 ih9
    refine (show Pv _ _ 33 [some (.ref p), some (.ref r), some (.int (Int32.ofNat k))] [] F Q from ?_)
    have hk := hi8
    refine Pv.iloadS rfl rfl ?_
    refine Pv.lit rfl ?_
    refine Pv.icmp rfl (fun c10 => ?_) (fun c10 => ?_)
    · skip
      replace c10 := (i_le (a := 8) (b := k) (by omega) (by omega)).mp (of_decide_eq_true c10)
      refine Pv.lit rfl ?_
      exact Pv.zret rfl (by rw [hQ]; exact ⟨⟨_, rfl⟩, rfl⟩)
    · skip
      replace c10 := mt (i_le (a := 8) (b := k) (by omega) (by omega)).mpr (of_decide_eq_false c10)
      refine Pv.aload rfl rfl ?_
      refine Pv.getR (v := .ref (p + 5)) rfl rfl ((hp 4 (by decide))) ?_
      refine Pv.iload rfl rfl ?_
      refine Pv.ald (z := F.1 (p + 5) k) rfl (by rw [i_toNat (by omega)]) ?_
      refine Pv.aload rfl rfl ?_
      refine Pv.getR (v := .ref (r + 5)) rfl rfl ((hr 4 (by decide))) ?_
      refine Pv.iload rfl rfl ?_
      refine Pv.ald (z := F.1 (r + 5) k) rfl (by rw [i_toNat (by omega)]) ?_
      refine Pv.icmp rfl (fun c11 => ?_) (fun c11 => ?_)
      · skip
        replace c11 := of_decide_eq_true c11
        refine Pv.iinc (y := Int32.ofNat (k + 1)) (lo' := [some (.ref p), some (.ref r), some (.int (Int32.ofNat (k + 1)))]) rfl rfl (i_add k 1) rfl ?_
        refine Pv.goto rfl ?_
        exact ih9 (k + 1) (by omega)
      · skip
        replace c11 := of_decide_eq_false c11
        refine Pv.lit rfl ?_
        exact Pv.zret rfl (by rw [hQ]; exact ⟨⟨_, rfl⟩, rfl⟩)
  · skip
    replace c5 := mt (i_le (a := 12) (b := k) (by omega) (by omega)).mpr (of_decide_eq_false c5)
    refine Pv.aload rfl rfl ?_
    refine Pv.getR (v := .ref (p + 1)) rfl rfl ((hp 0 (by decide))) ?_
    refine Pv.iload rfl rfl ?_
    refine Pv.ald (z := F.1 (p + 1) k) rfl (by rw [i_toNat (by omega)]) ?_
    refine Pv.aload rfl rfl ?_
    refine Pv.getR (v := .ref (r + 1)) rfl rfl ((hr 0 (by decide))) ?_
    refine Pv.iload rfl rfl ?_
    refine Pv.ald (z := F.1 (r + 1) k) rfl (by rw [i_toNat (by omega)]) ?_
    refine Pv.icmp rfl (fun c12 => ?_) (fun c12 => ?_)
    · skip
      replace c12 := of_decide_eq_true c12
      refine Pv.iinc (y := Int32.ofNat (k + 1)) (lo' := [some (.ref p), some (.ref r), some (.int (Int32.ofNat (k + 1)))]) rfl rfl (i_add k 1) rfl ?_
      refine Pv.goto rfl ?_
      exact ih4 (k + 1) (by omega)
    · skip
      replace c12 := of_decide_eq_false c12
      refine Pv.lit rfl ?_
      exact Pv.zret rfl (by rw [hQ]; exact ⟨⟨_, rfl⟩, rfl⟩)
set_option maxRecDepth 100000 in
set_option maxHeartbeats 4000000 in
theorem o_settles {F : FW} {t : Nat} {T : St} {S : Sh} (hG : GW F) (ht : F.2.1 0 13 = .ref t) (hT : TR F t T) (hS : SHR F 12 (t_m T) S) (j0 : t = 45 ∨ t = 53) : Pm Z_X10_settles [.ref 0] F (fun r F' => (∃ z, r = some (.int z)) ∧ CDR F F') := by
  refine Pm.of fun N => ?_
  obtain ⟨Q, hQ⟩ : ∃ Q : Option Value → FW → Prop, Q = (fun r F' => (∃ z, r = some (.int z)) ∧ CDR F F') := ⟨_, rfl⟩
  rw [← hQ]
  have b3 := hT.mb
  have b4 := hT.nb
  have b5 := hT.gb
  have b6 := m_from_lt S
  have b7 := hS.db
  refine (show Pv (ab_T (L_X10_settles Z_X6_copyFrom Z_X1_passDays Z_X6_looksLike)) N 0 [some (.ref 0), none] [] F Q from ?_)
  refine Pv.aload rfl rfl ?_
  refine Pv.getR (v := .ref 28) rfl rfl (GW.at (a := 0) (k := 6) (b := 28) hG (by decide)) ?_
  refine Pv.aload rfl rfl ?_
  refine Pv.getR (v := .ref 12) rfl rfl (GW.at (a := 0) (k := 4) (b := 12) hG (by decide)) ?_
  refine Pv.callV (as := [.ref 28, .ref 12]) (rest := []) rfl rfl rfl (f_shCopy (GW.o28 hG) hS b3 (by omega)) ?_
  rintro _ G1 ⟨rfl, x2, sr4⟩
  have hx3 := FX.tr (P := fun q => (7 ≤ q ∧ q ≤ 9) ∨ (20 ≤ q ∧ q ≤ 35) ∨ q = 40 ∨ q = 43) FX.rf (x2.wd (fun q (c : 28 ≤ q ∧ q ≤ 28 + 7) => (show (7 ≤ q ∧ q ≤ 9) ∨ (20 ≤ q ∧ q ≤ 35) ∨ q = 40 ∨ q = 43 by omega)))
  have hx5 := hT.fx (P := fun q => 28 ≤ q ∧ q ≤ 28 + 7) x2 (fun q h1 h2 (c : 28 ≤ q ∧ q ≤ 28 + 7) => by omega)
  have hx6 := hS.fx (P := fun q => 28 ≤ q ∧ q ≤ 28 + 7) x2 (fun q h1 h2 (c : 28 ≤ q ∧ q ≤ 28 + 7) => by omega)
  have hx7 := hG.fx (P := fun q => 28 ≤ q ∧ q ≤ 28 + 7) x2
  have hr8 : G1.2.1 0 13 = .ref t := by rw [x2.2.2.1]; exact ht
  refine (show Pv _ _ 11 [some (.ref 0), none] [] G1 Q from ?_)
  refine Pv.aload rfl rfl ?_
  refine Pv.getR (v := .ref 20) rfl rfl (GW.at (a := 0) (k := 5) (b := 20) hx7 (by decide)) ?_
  refine Pv.aload rfl rfl ?_
  refine Pv.getR (v := .ref 12) rfl rfl (GW.at (a := 0) (k := 4) (b := 12) hx7 (by decide)) ?_
  refine Pv.callV (as := [.ref 20, .ref 12]) (rest := []) rfl rfl rfl (f_shCopy (GW.o20 hx7) hx6 b3 (by omega)) ?_
  rintro _ G9 ⟨rfl, x10, sr12⟩
  have hx11 := FX.tr (P := fun q => (7 ≤ q ∧ q ≤ 9) ∨ (20 ≤ q ∧ q ≤ 35) ∨ q = 40 ∨ q = 43) hx3 (x10.wd (fun q (c : 20 ≤ q ∧ q ≤ 20 + 7) => (show (7 ≤ q ∧ q ≤ 9) ∨ (20 ≤ q ∧ q ≤ 35) ∨ q = 40 ∨ q = 43 by omega)))
  have hx13 := hx5.fx (P := fun q => 20 ≤ q ∧ q ≤ 20 + 7) x10 (fun q h1 h2 (c : 20 ≤ q ∧ q ≤ 20 + 7) => by omega)
  have hx14 := hx6.fx (P := fun q => 20 ≤ q ∧ q ≤ 20 + 7) x10 (fun q h1 h2 (c : 20 ≤ q ∧ q ≤ 20 + 7) => by omega)
  have hx15 := sr4.fx (P := fun q => 20 ≤ q ∧ q ≤ 20 + 7) x10 (fun q h1 h2 (c : 20 ≤ q ∧ q ≤ 20 + 7) => by omega)
  have hx16 := hx7.fx (P := fun q => 20 ≤ q ∧ q ≤ 20 + 7) x10
  have hr17 : G9.2.1 0 13 = .ref t := by rw [x10.2.2.1]; exact hr8
  refine (show Pv _ _ 22 [some (.ref 0), none] [] G9 Q from ?_)
  refine Pv.aload rfl rfl ?_
  refine Pv.getR (v := .ref 7) rfl rfl (GW.at (a := 0) (k := 2) (b := 7) hx16 (by decide)) ?_
  refine Pv.aload rfl rfl ?_
  refine Pv.getR (v := .ref t) rfl rfl (hr17) ?_
  refine Pv.aload rfl rfl ?_
  refine Pv.getR (v := .ref 20) rfl rfl (GW.at (a := 0) (k := 5) (b := 20) hx16 (by decide)) ?_
  refine Pv.lit rfl ?_
  refine Pv.callV (as := [.ref 7, .ref t, .ref 20, .int 2]) (rest := []) rfl rfl rfl (f_passDays (n := 2) hx13 sr12 hx16 (by omega) (by omega) (by omega) (by omega)) ?_
  rintro _ G18 ⟨rfl, x19, sr21, pl22⟩
  have hx20 := FX.tr (P := fun q => (7 ≤ q ∧ q ≤ 9) ∨ (20 ≤ q ∧ q ≤ 35) ∨ q = 40 ∨ q = 43) hx11 (x19.wd (fun q (c : (20 ≤ q ∧ q ≤ 20 + 7) ∨ (7 ≤ q ∧ q ≤ 9)) => (show (7 ≤ q ∧ q ≤ 9) ∨ (20 ≤ q ∧ q ≤ 35) ∨ q = 40 ∨ q = 43 by omega)))
  have hx23 := hx13.fx (P := fun q => (20 ≤ q ∧ q ≤ 20 + 7) ∨ (7 ≤ q ∧ q ≤ 9)) x19 (fun q h1 h2 (c : (20 ≤ q ∧ q ≤ 20 + 7) ∨ (7 ≤ q ∧ q ≤ 9)) => by omega)
  have hx24 := hx14.fx (P := fun q => (20 ≤ q ∧ q ≤ 20 + 7) ∨ (7 ≤ q ∧ q ≤ 9)) x19 (fun q h1 h2 (c : (20 ≤ q ∧ q ≤ 20 + 7) ∨ (7 ≤ q ∧ q ≤ 9)) => by omega)
  have hx25 := hx15.fx (P := fun q => (20 ≤ q ∧ q ≤ 20 + 7) ∨ (7 ≤ q ∧ q ≤ 9)) x19 (fun q h1 h2 (c : (20 ≤ q ∧ q ≤ 20 + 7) ∨ (7 ≤ q ∧ q ≤ 9)) => by omega)
  have hx26 := hx16.fx (P := fun q => (20 ≤ q ∧ q ≤ 20 + 7) ∨ (7 ≤ q ∧ q ≤ 9)) x19
  have hr27 : G18.2.1 0 13 = .ref t := by rw [x19.2.2.1]; exact hr17
  refine (show Pv _ _ 38 [some (.ref 0), none] [.int (Int32.ofNat (h_d (m_days T S 2)) - Int32.ofNat (h_d S))] G18 Q from ?_)
  refine Pv.lit rfl ?_
  refine Pv.icmp rfl (fun c28 => ?_) (fun c28 => ?_)
  · skip
    replace c28 := of_decide_eq_true c28
    refine Pv.lit rfl ?_
    refine Pv.istore (lo' := [some (.ref 0), some (.int 0)]) rfl rfl ?_
    refine Pv.lp (ι := Nat × FW) (lof := fun ⟨k, G⟩ => [some (.ref 0), some (.int (Int32.ofNat k))]) (Ff := fun ⟨k, G⟩ => G) (P := fun ⟨k, G⟩ => FX (fun q => (7 ≤ q ∧ q ≤ 9) ∨ (20 ≤ q ∧ q ≤ 35) ∨ q = 40 ∨ q = 43) F G ∧ (k ≤ 200) ∧ (SHR G 20 (t_m T) (m_days T S (k + 2))) ∧ (SHR G 28 (t_m T) (m_days T S k))) ?_ (0, G18) (⟨hx20, Nat.zero_le _, sr21, hx25⟩)
    rintro N29 hN30 ⟨k, G⟩ hi31 ih32
    refine (show Pv _ _ 46 [some (.ref 0), some (.int (Int32.ofNat k))] [] G Q from ?_)
    obtain ⟨hxG, hk, hA, hB⟩ := hi31
    have hx33 := hT.fx (P := fun q => (7 ≤ q ∧ q ≤ 9) ∨ (20 ≤ q ∧ q ≤ 35) ∨ q = 40 ∨ q = 43) hxG (fun q h1 h2 (c : (7 ≤ q ∧ q ≤ 9) ∨ (20 ≤ q ∧ q ≤ 35) ∨ q = 40 ∨ q = 43) => by omega)
    have hx34 := hS.fx (P := fun q => (7 ≤ q ∧ q ≤ 9) ∨ (20 ≤ q ∧ q ≤ 35) ∨ q = 40 ∨ q = 43) hxG (fun q h1 h2 (c : (7 ≤ q ∧ q ≤ 9) ∨ (20 ≤ q ∧ q ≤ 35) ∨ q = 40 ∨ q = 43) => by omega)
    have hx35 := hG.fx (P := fun q => (7 ≤ q ∧ q ≤ 9) ∨ (20 ≤ q ∧ q ≤ 35) ∨ q = 40 ∨ q = 43) hxG
    have hx36 : G.2.1 0 13 = .ref t := by rw [hxG.2.2.1]; exact ht
    have bD := hA.db
    have bE := hB.db
    refine Pv.iloadS rfl rfl ?_
    refine Pv.lit rfl ?_
    refine Pv.icmp rfl (fun c37 => ?_) (fun c37 => ?_)
    · skip
      replace c37 := (i_le (a := 200) (b := k) (by omega) (by omega)).mp (of_decide_eq_true c37)
      refine Pv.lit rfl ?_
      exact Pv.ret rfl (by rw [hQ]; exact ⟨⟨_, rfl⟩, hxG⟩)
    · skip
      replace c37 := mt (i_le (a := 200) (b := k) (by omega) (by omega)).mpr (of_decide_eq_false c37)
      refine Pv.aload rfl rfl ?_
      refine Pv.getR (v := .ref 20) rfl rfl (GW.at (a := 0) (k := 5) (b := 20) hx35 (by decide)) ?_
      refine Pv.aload rfl rfl ?_
      refine Pv.getR (v := .ref 28) rfl rfl (GW.at (a := 0) (k := 6) (b := 28) hx35 (by decide)) ?_
      refine Pv.callV (as := [.ref 20, .ref 28]) (rest := []) rfl rfl rfl (o_looksLike hA.o hB.o) ?_
      rintro _ Fe ⟨⟨z38, rfl⟩, ee⟩
      obtain rfl := ee.symm
      refine (show Pv _ _ 64 [some (.ref 0), some (.int (Int32.ofNat k))] [.int z38] G Q from ?_)
      refine Pv.if0 rfl (fun c39 => ?_) (fun c39 => ?_)
      · skip
        replace c39 := of_decide_eq_true c39
        refine Pv.aload rfl rfl ?_
        refine Pv.getR (v := .ref 20) rfl rfl (GW.at (a := 0) (k := 5) (b := 20) hx35 (by decide)) ?_
        refine Pv.getI (z := Int32.ofNat (h_d (m_days T S (k + 2)))) rfl rfl (hA.d) ?_
        refine Pv.lit rfl ?_
        refine Pv.icmp rfl (fun c40 => ?_) (fun c40 => ?_)
        · skip
          replace c40 := (i_lt (a := h_d (m_days T S (k + 2))) (b := 400) (by omega) (by omega)).mp (of_decide_eq_true c40)
          refine Pv.aload rfl rfl ?_
          refine Pv.getR (v := .ref 7) rfl rfl (GW.at (a := 0) (k := 2) (b := 7) hx35 (by decide)) ?_
          refine Pv.aload rfl rfl ?_
          refine Pv.getR (v := .ref t) rfl rfl (hx36) ?_
          refine Pv.aload rfl rfl ?_
          refine Pv.getR (v := .ref 20) rfl rfl (GW.at (a := 0) (k := 5) (b := 20) hx35 (by decide)) ?_
          refine Pv.lit rfl ?_
          refine Pv.callV (as := [.ref 7, .ref t, .ref 20, .int 1]) (rest := []) rfl rfl rfl (f_passDays (n := 1) hx33 hA hx35 (by omega) (by omega) (by omega) (by omega)) ?_
          rintro _ G41 ⟨rfl, x42, sr44, pl45⟩
          have hx43 := FX.tr (P := fun q => (7 ≤ q ∧ q ≤ 9) ∨ (20 ≤ q ∧ q ≤ 35) ∨ q = 40 ∨ q = 43) hxG (x42.wd (fun q (c : (20 ≤ q ∧ q ≤ 20 + 7) ∨ (7 ≤ q ∧ q ≤ 9)) => (show (7 ≤ q ∧ q ≤ 9) ∨ (20 ≤ q ∧ q ≤ 35) ∨ q = 40 ∨ q = 43 by omega)))
          have hx46 := hx33.fx (P := fun q => (20 ≤ q ∧ q ≤ 20 + 7) ∨ (7 ≤ q ∧ q ≤ 9)) x42 (fun q h1 h2 (c : (20 ≤ q ∧ q ≤ 20 + 7) ∨ (7 ≤ q ∧ q ≤ 9)) => by omega)
          have hx47 := hx34.fx (P := fun q => (20 ≤ q ∧ q ≤ 20 + 7) ∨ (7 ≤ q ∧ q ≤ 9)) x42 (fun q h1 h2 (c : (20 ≤ q ∧ q ≤ 20 + 7) ∨ (7 ≤ q ∧ q ≤ 9)) => by omega)
          have hx48 := hB.fx (P := fun q => (20 ≤ q ∧ q ≤ 20 + 7) ∨ (7 ≤ q ∧ q ≤ 9)) x42 (fun q h1 h2 (c : (20 ≤ q ∧ q ≤ 20 + 7) ∨ (7 ≤ q ∧ q ≤ 9)) => by omega)
          have hx49 := hx35.fx (P := fun q => (20 ≤ q ∧ q ≤ 20 + 7) ∨ (7 ≤ q ∧ q ≤ 9)) x42
          have hr50 : G41.2.1 0 13 = .ref t := by rw [x42.2.2.1]; exact hx36
          refine (show Pv _ _ 106 [some (.ref 0), some (.int (Int32.ofNat k))] [.int (Int32.ofNat (h_d (m_days T (m_days T S (k + 2)) 1)) - Int32.ofNat (h_d (m_days T S (k + 2))))] G41 Q from ?_)
          refine Pv.pop rfl ?_
          refine Pv.aload rfl rfl ?_
          refine Pv.getR (v := .ref 7) rfl rfl (GW.at (a := 0) (k := 2) (b := 7) hx49 (by decide)) ?_
          refine Pv.aload rfl rfl ?_
          refine Pv.getR (v := .ref t) rfl rfl (hr50) ?_
          refine Pv.aload rfl rfl ?_
          refine Pv.getR (v := .ref 28) rfl rfl (GW.at (a := 0) (k := 6) (b := 28) hx49 (by decide)) ?_
          refine Pv.lit rfl ?_
          refine Pv.callV (as := [.ref 7, .ref t, .ref 28, .int 1]) (rest := []) rfl rfl rfl (f_passDays (n := 1) hx46 hx48 hx49 (by omega) (by omega) (by omega) (by omega)) ?_
          rintro _ G51 ⟨rfl, x52, sr54, pl55⟩
          have hx53 := FX.tr (P := fun q => (7 ≤ q ∧ q ≤ 9) ∨ (20 ≤ q ∧ q ≤ 35) ∨ q = 40 ∨ q = 43) hx43 (x52.wd (fun q (c : (28 ≤ q ∧ q ≤ 28 + 7) ∨ (7 ≤ q ∧ q ≤ 9)) => (show (7 ≤ q ∧ q ≤ 9) ∨ (20 ≤ q ∧ q ≤ 35) ∨ q = 40 ∨ q = 43 by omega)))
          have hx56 := hx46.fx (P := fun q => (28 ≤ q ∧ q ≤ 28 + 7) ∨ (7 ≤ q ∧ q ≤ 9)) x52 (fun q h1 h2 (c : (28 ≤ q ∧ q ≤ 28 + 7) ∨ (7 ≤ q ∧ q ≤ 9)) => by omega)
          have hx57 := hx47.fx (P := fun q => (28 ≤ q ∧ q ≤ 28 + 7) ∨ (7 ≤ q ∧ q ≤ 9)) x52 (fun q h1 h2 (c : (28 ≤ q ∧ q ≤ 28 + 7) ∨ (7 ≤ q ∧ q ≤ 9)) => by omega)
          have hx58 := sr44.fx (P := fun q => (28 ≤ q ∧ q ≤ 28 + 7) ∨ (7 ≤ q ∧ q ≤ 9)) x52 (fun q h1 h2 (c : (28 ≤ q ∧ q ≤ 28 + 7) ∨ (7 ≤ q ∧ q ≤ 9)) => by omega)
          have hx59 := hx49.fx (P := fun q => (28 ≤ q ∧ q ≤ 28 + 7) ∨ (7 ≤ q ∧ q ≤ 9)) x52
          have hr60 : G51.2.1 0 13 = .ref t := by rw [x52.2.2.1]; exact hr50
          refine (show Pv _ _ 123 [some (.ref 0), some (.int (Int32.ofNat k))] [.int (Int32.ofNat (h_d (m_days T (m_days T S k) 1)) - Int32.ofNat (h_d (m_days T S k)))] G51 Q from ?_)
          refine Pv.pop rfl ?_
          refine Pv.iinc (y := Int32.ofNat (k + 1)) (lo' := [some (.ref 0), some (.int (Int32.ofNat (k + 1)))]) rfl rfl (i_add k 1) rfl ?_
          refine Pv.goto rfl ?_
          exact ih32 (k + 1, G51) (⟨hx53, by omega, (show SHR G51 20 (t_m T) (m_days T S (k + 1 + 2)) from hx58), (show SHR G51 28 (t_m T) (m_days T S (k + 1)) from sr54)⟩)
        · skip
          replace c40 := mt (i_lt (a := h_d (m_days T S (k + 2))) (b := 400) (by omega) (by omega)).mpr (of_decide_eq_false c40)
          refine Pv.lit rfl ?_
          exact Pv.ret rfl (by rw [hQ]; exact ⟨⟨_, rfl⟩, hxG⟩)
      · skip
        replace c39 := of_decide_eq_false c39
        refine Pv.aload rfl rfl ?_
        refine Pv.getR (v := .ref 28) rfl rfl (GW.at (a := 0) (k := 6) (b := 28) hx35 (by decide)) ?_
        refine Pv.getI (z := Int32.ofNat (h_d (m_days T S k))) rfl rfl (hB.d) ?_
        exact Pv.ret rfl (by rw [hQ]; exact ⟨⟨_, rfl⟩, hxG⟩)
  · skip
    replace c28 := of_decide_eq_false c28
    refine Pv.lit rfl ?_
    exact Pv.ret rfl (by rw [hQ]; exact ⟨⟨_, rfl⟩, hx20⟩)
set_option maxRecDepth 100000 in
set_option maxHeartbeats 4000000 in
theorem g_lays {F : FW} {k : Nat} (hG : GW F) (hk3 : k < 3) : Pm Z_X11_lays [.ref 69, .int (Int32.ofNat k)] F (fun r F' => r = none ∧ FX (fun q => q = 79) F F') := by
  refine Pm.of fun N => ?_
  obtain ⟨Q, hQ⟩ : ∃ Q : Option Value → FW → Prop, Q = (fun r F' => r = none ∧ FX (fun q => q = 79) F F') := ⟨_, rfl⟩
  rw [← hQ]
  refine (show Pv (ab_T L_X11_lays) N 0 [some (.ref 69), some (.int (Int32.ofNat k)), none] [] F Q from ?_)
  refine Pv.lit rfl ?_
  refine Pv.istore (lo' := [some (.ref 69), some (.int (Int32.ofNat k)), some (.int 0)]) rfl rfl ?_
  refine Pv.lp (ι := Nat × FW) (lof := fun ⟨i, G⟩ => [some (.ref 69), some (.int (Int32.ofNat k)), some (.int (Int32.ofNat i))]) (Ff := fun ⟨i, G⟩ => G) (P := fun ⟨i, G⟩ => (i ≤ 12) ∧ (FX (fun q => q = 79) F G)) ?_ (0, F) (⟨Nat.zero_le _, FX.rf⟩)
  rintro N1 hN2 ⟨i, G⟩ hi3 ih4
  refine (show Pv _ _ 2 [some (.ref 69), some (.int (Int32.ofNat k)), some (.int (Int32.ofNat i))] [] G Q from ?_)
  obtain ⟨hi, hxG⟩ := hi3
  have hx5 := hG.fx (P := fun q => q = 79) hxG
  refine Pv.iloadS rfl rfl ?_
  refine Pv.lit rfl ?_
  refine Pv.icmp rfl (fun c6 => ?_) (fun c6 => ?_)
  · skip
    replace c6 := (i_le (a := 12) (b := i) (by omega) (by omega)).mp (of_decide_eq_true c6)
    refine Pv.lit rfl ?_
    refine Pv.istore (lo' := [some (.ref 69), some (.int (Int32.ofNat k)), some (.int 0)]) rfl rfl ?_
    refine Pv.lp (ι := Nat × FW) (lof := fun ⟨i, G2⟩ => [some (.ref 69), some (.int (Int32.ofNat k)), some (.int (Int32.ofNat i))]) (Ff := fun ⟨i, G2⟩ => G2) (P := fun ⟨i, G2⟩ => (i ≤ 8) ∧ (FX (fun q => q = 79) F G2)) ?_ (0, G) (⟨Nat.zero_le _, hxG⟩)
    rintro N7 hN8 ⟨i, G2⟩ hi9 ih10
    refine (show Pv _ _ 36 [some (.ref 69), some (.int (Int32.ofNat k)), some (.int (Int32.ofNat i))] [] G2 Q from ?_)
    obtain ⟨hi, hxG2⟩ := hi9
    have hx11 := hG.fx (P := fun q => q = 79) hxG2
    refine Pv.iloadS rfl rfl ?_
    refine Pv.lit rfl ?_
    refine Pv.icmp rfl (fun c12 => ?_) (fun c12 => ?_)
    · skip
      replace c12 := (i_le (a := 8) (b := i) (by omega) (by omega)).mp (of_decide_eq_true c12)
      exact Pv.vret rfl (by rw [hQ]; exact ⟨rfl, hxG2⟩)
    · skip
      replace c12 := mt (i_le (a := 8) (b := i) (by omega) (by omega)).mpr (of_decide_eq_false c12)
      refine Pv.aload rfl rfl ?_
      refine Pv.getR (v := .ref 79) rfl rfl (GW.at (a := 69) (k := 26) (b := 79) hx11 (by decide)) ?_
      refine Pv.lit rfl ?_
      refine Pv.iload rfl rfl ?_
      refine Pv.bin (z := Int32.ofNat (20 * k)) rfl (i_mul 20 k) ?_
      refine Pv.lit rfl ?_
      refine Pv.bin (z := Int32.ofNat ((20 * k) + 12)) rfl (i_add (20 * k) 12) ?_
      refine Pv.iload rfl rfl ?_
      refine Pv.bin (z := Int32.ofNat (((20 * k) + 12) + i)) rfl (i_add ((20 * k) + 12) i) ?_
      refine Pv.aload rfl rfl ?_
      refine Pv.getR (v := .ref 71) rfl rfl (GW.at (a := 69) (k := 6) (b := 71) hx11 (by decide)) ?_
      refine Pv.lit rfl ?_
      refine Pv.iload rfl rfl ?_
      refine Pv.bin (z := Int32.ofNat (172 + i)) rfl (i_add 172 i) ?_
      refine Pv.ald (z := F.1 71 (172 + i)) rfl (by rw [i_toNat (by omega)]; exact hxG2.1 71 _ (by decide)) ?_
      refine Pv.astk (k := ((20 * k) + 12) + i) (z := F.1 71 (172 + i)) rfl (i_toNat (by omega)) (rfl) ?_
      refine Pv.iinc (y := Int32.ofNat (i + 1)) (lo' := [some (.ref 69), some (.int (Int32.ofNat k)), some (.int (Int32.ofNat (i + 1)))]) rfl rfl (i_add i 1) rfl ?_
      refine Pv.goto rfl ?_
      exact ih10 (i + 1, (fp G2 79 (((20 * k) + 12) + i) (F.1 71 (172 + i)))) (⟨by omega, (hxG2).fp (show 79 = 79 by omega)⟩)
  · skip
    replace c6 := mt (i_le (a := 12) (b := i) (by omega) (by omega)).mpr (of_decide_eq_false c6)
    refine Pv.aload rfl rfl ?_
    refine Pv.getR (v := .ref 79) rfl rfl (GW.at (a := 69) (k := 26) (b := 79) hx5 (by decide)) ?_
    refine Pv.lit rfl ?_
    refine Pv.iload rfl rfl ?_
    refine Pv.bin (z := Int32.ofNat (20 * k)) rfl (i_mul 20 k) ?_
    refine Pv.iload rfl rfl ?_
    refine Pv.bin (z := Int32.ofNat ((20 * k) + i)) rfl (i_add (20 * k) i) ?_
    refine Pv.aload rfl rfl ?_
    refine Pv.getR (v := .ref 71) rfl rfl (GW.at (a := 69) (k := 6) (b := 71) hx5 (by decide)) ?_
    refine Pv.lit rfl ?_
    refine Pv.iload rfl rfl ?_
    refine Pv.bin (z := Int32.ofNat (124 + i)) rfl (i_add 124 i) ?_
    refine Pv.ald (z := F.1 71 (124 + i)) rfl (by rw [i_toNat (by omega)]; exact hxG.1 71 _ (by decide)) ?_
    refine Pv.astk (k := (20 * k) + i) (z := F.1 71 (124 + i)) rfl (i_toNat (by omega)) (rfl) ?_
    refine Pv.iinc (y := Int32.ofNat (i + 1)) (lo' := [some (.ref 69), some (.int (Int32.ofNat k)), some (.int (Int32.ofNat (i + 1)))]) rfl rfl (i_add i 1) rfl ?_
    refine Pv.goto rfl ?_
    exact ih4 (i + 1, (fp G 79 ((20 * k) + i) (F.1 71 (124 + i)))) (⟨by omega, (hxG).fp (show 79 = 79 by omega)⟩)
set_option maxRecDepth 100000 in
set_option maxHeartbeats 4000000 in
theorem g_areAlike {F : FW} {k j : Nat} (hG : GW F) (hk3 : k < 3) (hj3 : j < 3) : Pm Z_X11_areAlike [.ref 69, .int (Int32.ofNat k), .int (Int32.ofNat j)] F (fun r F' => (∃ z, r = some (.int z)) ∧ F' = F) := by
  refine Pm.of fun N => ?_
  obtain ⟨Q, hQ⟩ : ∃ Q : Option Value → FW → Prop, Q = (fun r F' => (∃ z, r = some (.int z)) ∧ F' = F) := ⟨_, rfl⟩
  rw [← hQ]
  refine (show Pv (ab_T L_X11_areAlike) N 0 [some (.ref 69), some (.int (Int32.ofNat k)), some (.int (Int32.ofNat j)), none] [] F Q from ?_)
  refine Pv.lit rfl ?_
  refine Pv.istore (lo' := [some (.ref 69), some (.int (Int32.ofNat k)), some (.int (Int32.ofNat j)), some (.int 0)]) rfl rfl ?_
  refine Pv.lp (ι := Nat) (lof := fun i => [some (.ref 69), some (.int (Int32.ofNat k)), some (.int (Int32.ofNat j)), some (.int (Int32.ofNat i))]) (Ff := fun i => F) (P := fun i => i ≤ 20) ?_ 0 (Nat.zero_le _)
  rintro N1 hN2 i hi3 ih4
  refine (show Pv _ _ 2 [some (.ref 69), some (.int (Int32.ofNat k)), some (.int (Int32.ofNat j)), some (.int (Int32.ofNat i))] [] F Q from ?_)
  have hi0 := hi3
  refine Pv.iloadS rfl rfl ?_
  refine Pv.lit rfl ?_
  refine Pv.icmp rfl (fun c5 => ?_) (fun c5 => ?_)
  · skip
    replace c5 := (i_le (a := 20) (b := i) (by omega) (by omega)).mp (of_decide_eq_true c5)
    refine Pv.lit rfl ?_
    exact Pv.zret rfl (by rw [hQ]; exact ⟨⟨_, rfl⟩, rfl⟩)
  · skip
    replace c5 := mt (i_le (a := 20) (b := i) (by omega) (by omega)).mpr (of_decide_eq_false c5)
    refine Pv.aload rfl rfl ?_
    refine Pv.getR (v := .ref 79) rfl rfl (GW.at (a := 69) (k := 26) (b := 79) hG (by decide)) ?_
    refine Pv.lit rfl ?_
    refine Pv.iload rfl rfl ?_
    refine Pv.bin (z := Int32.ofNat (20 * k)) rfl (i_mul 20 k) ?_
    refine Pv.iload rfl rfl ?_
    refine Pv.bin (z := Int32.ofNat ((20 * k) + i)) rfl (i_add (20 * k) i) ?_
    refine Pv.ald (z := F.1 79 ((20 * k) + i)) rfl (by rw [i_toNat (by omega)]) ?_
    refine Pv.aload rfl rfl ?_
    refine Pv.getR (v := .ref 79) rfl rfl (GW.at (a := 69) (k := 26) (b := 79) hG (by decide)) ?_
    refine Pv.lit rfl ?_
    refine Pv.iload rfl rfl ?_
    refine Pv.bin (z := Int32.ofNat (20 * j)) rfl (i_mul 20 j) ?_
    refine Pv.iload rfl rfl ?_
    refine Pv.bin (z := Int32.ofNat ((20 * j) + i)) rfl (i_add (20 * j) i) ?_
    refine Pv.ald (z := F.1 79 ((20 * j) + i)) rfl (by rw [i_toNat (by omega)]) ?_
    refine Pv.icmp rfl (fun c6 => ?_) (fun c6 => ?_)
    · skip
      replace c6 := of_decide_eq_true c6
      refine Pv.iinc (y := Int32.ofNat (i + 1)) (lo' := [some (.ref 69), some (.int (Int32.ofNat k)), some (.int (Int32.ofNat j)), some (.int (Int32.ofNat (i + 1)))]) rfl rfl (i_add i 1) rfl ?_
      refine Pv.goto rfl ?_
      exact ih4 (i + 1) (by omega)
    · skip
      replace c6 := of_decide_eq_false c6
      refine Pv.lit rfl ?_
      exact Pv.zret rfl (by rw [hQ]; exact ⟨⟨_, rfl⟩, rfl⟩)
set_option maxRecDepth 100000 in
set_option maxHeartbeats 4000000 in
theorem q_settles {F : FW} {T : St} {S : Sh} (hT : XT F T) (hS : XS F (t_m T) S) (hG : GW F) (hTB : TBB T) (hI : INV T S) : Pm Z_X11_settles [.ref 69] F (fun r F' => (∃ z, r = some (.int z)) ∧ RDR F F') := by
  refine Pm.of fun N => ?_
  obtain ⟨Q, hQ⟩ : ∃ Q : Option Value → FW → Prop, Q = (fun r F' => (∃ z, r = some (.int z)) ∧ RDR F F') := ⟨_, rfl⟩
  rw [← hQ]
  have b3 := hT.mb
  have b4 := hT.nb
  have b5 := hT.gb
  have b6 := m_from_lt S
  have b7 := hS.db
  have hSB := hI.sb
  refine (show Pv (ab_T (L_X11_settles Z_X11_tries Z_X11_lays Z_X11_areAlike Z_X11_goesOn Z_X11_back)) N 0 [some (.ref 69), none, none] [] F Q from ?_)
  refine Pv.aload rfl rfl ?_
  refine Pv.lit rfl ?_
  refine Pv.putI rfl rfl ?_
  refine Pv.aload rfl rfl ?_
  refine Pv.callV (as := [.ref 69]) (rest := []) rfl rfl rfl (g_tries (hG.fx (P := fun _ => True) (((FX.rf (P := fun _ => True))).fp trivial))) ?_
  rintro _ G1 ⟨rfl, x2, y3⟩
  have rt4 := RT.of ((RDR.rf).fp (Or.inl rfl)) x2 y3
  have hs5 := RT.ofS ((RDR.rf).fp (Or.inl rfl)) x2 b3 hS
  have hx6 := RT.T rt4 hT
  have hx7 := RT.G rt4 hG
  refine (show Pv _ _ 9 [some (.ref 69), none, none] [] G1 Q from ?_)
  refine Pv.lit rfl ?_
  refine Pv.istore (lo' := [some (.ref 69), some (.int (-1)), none]) rfl rfl ?_
  refine Pv.lit rfl ?_
  refine Pv.istore (lo' := [some (.ref 69), some (.int (-1)), some (.int 0)]) rfl rfl ?_
  refine Pv.lp (ι := Nat × Int32 × FW × Nat) (lof := fun ⟨k, w, G, j⟩ => [some (.ref 69), some (.int w), some (.int (Int32.ofNat k))]) (Ff := fun ⟨k, w, G, j⟩ => G) (P := fun ⟨k, w, G, j⟩ => (k ≤ 203) ∧ (RT F G) ∧ (XS G (t_m T) (m_days T S j))) ?_ (0, (-1), G1, 0) (⟨Nat.zero_le _, rt4, hs5⟩)
  rintro N8 hN9 ⟨k, w, G, j⟩ hi10 ih11
  refine (show Pv _ _ 13 [some (.ref 69), some (.int w), some (.int (Int32.ofNat k))] [] G Q from ?_)
  obtain ⟨hk, rt, hxs⟩ := hi10
  have hx12 := RT.T rt hT
  have hx13 := RT.G rt hG
  have bD14 := XS.db hxs
  refine Pv.iloadS rfl rfl ?_
  refine Pv.lit rfl ?_
  refine Pv.icmp rfl (fun c15 => ?_) (fun c15 => ?_)
  · skip
    replace c15 := (i_lt (a := 202) (b := k) (by omega) (by omega)).mp (of_decide_eq_true c15)
    refine Pv.aload rfl rfl ?_
    refine Pv.callV (as := [.ref 69]) (rest := []) rfl rfl rfl (g_back hx13) ?_
    rintro _ G16 ⟨rfl, x17, y18, z19⟩
    have rd20 := RT.bk rt x17 y18 z19
    refine (show Pv _ _ 86 [some (.ref 69), some (.int w), some (.int (Int32.ofNat k))] [] G16 Q from ?_)
    refine Pv.iload rfl rfl ?_
    exact Pv.ret rfl (by rw [hQ]; exact ⟨⟨_, rfl⟩, rd20⟩)
  · skip
    replace c15 := mt (i_lt (a := 202) (b := k) (by omega) (by omega)).mpr (of_decide_eq_false c15)
    refine Pv.iload rfl rfl ?_
    refine Pv.if0 rfl (fun c21 => ?_) (fun c21 => ?_)
    · skip
      replace c21 := of_decide_eq_true c21
      refine Pv.aload rfl rfl ?_
      refine Pv.callV (as := [.ref 69]) (rest := []) rfl rfl rfl (g_back hx13) ?_
      rintro _ G22 ⟨rfl, x23, y24, z25⟩
      have rd26 := RT.bk rt x23 y24 z25
      refine (show Pv _ _ 86 [some (.ref 69), some (.int w), some (.int (Int32.ofNat k))] [] G22 Q from ?_)
      refine Pv.iload rfl rfl ?_
      exact Pv.ret rfl (by rw [hQ]; exact ⟨⟨_, rfl⟩, rd26⟩)
    · skip
      replace c21 := of_decide_eq_false c21
      refine Pv.aload rfl rfl ?_
      refine Pv.iload rfl rfl ?_
      refine Pv.lit rfl ?_
      refine Pv.irem (z := Int32.ofNat (k % 3)) rfl (i_remN (by omega) (by decide) (by decide)) ?_
      refine Pv.callV (as := [.ref 69, .int (Int32.ofNat (k % 3))]) (rest := []) rfl rfl rfl (g_lays (k := k % 3) hx13 (Nat.mod_lt _ (by decide))) ?_
      rintro _ G27 ⟨rfl, x28⟩
      have rt29 := RT.lay rt x28
      have hs30 := XS.fx hxs b3 x28 (by decide)
      have hx31 := RT.T rt29 hT
      have hx32 := RT.G rt29 hG
      refine (show Pv _ _ 31 [some (.ref 69), some (.int w), some (.int (Int32.ofNat k))] [] G27 Q from ?_)
      refine Pv.iload rfl rfl ?_
      refine Pv.lit rfl ?_
      refine Pv.icmp rfl (fun c33 => ?_) (fun c33 => ?_)
      · skip
        replace c33 := (i_le (a := k) (b := 1) (by omega) (by omega)).mp (of_decide_eq_true c33)
        refine Pv.aload rfl rfl ?_
        refine Pv.lit rfl ?_
        refine Pv.callV (as := [.ref 69, .int 1]) (rest := []) rfl rfl rfl (g_goesOn (n := 1) hx31 hs30 hx32 hTB (INV.sb (INV_days hTB hT.gb hI j)) (by omega)) ?_
        rintro _ G34 ⟨rfl, x35, hs36⟩
        have rt37 := RT.rx rt29 x35
        have hx38 := RT.T rt37 hT
        have hx39 := RT.G rt37 hG
        have bD40 := XS.db hs36
        refine (show Pv _ _ 69 [some (.ref 69), some (.int w), some (.int (Int32.ofNat k))] [.int (Int32.ofNat (h_d (m_days T (m_days T S j) 1) - h_d (m_days T S j)))] G34 Q from ?_)
        refine Pv.if0 rfl (fun c41 => ?_) (fun c41 => ?_)
        · skip
          replace c41 : decide (Int32.ofNat (h_d (m_days T (m_days T S j) 1) - h_d (m_days T S j)) = 0) = false := by simpa using c41
          replace c41 := mt (i_eq (a := h_d (m_days T (m_days T S j) 1) - h_d (m_days T S j)) (b := 0) (by omega) (by omega)).mpr (of_decide_eq_false c41)
          refine Pv.iinc (y := Int32.ofNat (k + 1)) (lo' := [some (.ref 69), some (.int w), some (.int (Int32.ofNat (k + 1)))]) rfl rfl (i_add k 1) rfl ?_
          refine Pv.goto rfl ?_
          exact ih11 (k + 1, w, G34, (j + 1)) (⟨by omega, rt37, hs36⟩)
        · skip
          replace c41 : decide (Int32.ofNat (h_d (m_days T (m_days T S j) 1) - h_d (m_days T S j)) = 0) = true := by simpa using c41
          replace c41 := (i_eq (a := h_d (m_days T (m_days T S j) 1) - h_d (m_days T S j)) (b := 0) (by omega) (by omega)).mp (of_decide_eq_true c41)
          refine Pv.lit rfl ?_
          refine Pv.istore (lo' := [some (.ref 69), some (.int w), some (.int 202)]) rfl rfl ?_
          refine Pv.iinc (y := Int32.ofNat (202 + 1)) (lo' := [some (.ref 69), some (.int w), some (.int (Int32.ofNat (202 + 1)))]) rfl rfl (i_add 202 1) rfl ?_
          refine Pv.goto rfl ?_
          exact ih11 (202 + 1, w, G34, (j + 1)) (⟨by omega, rt37, hs36⟩)
      · skip
        replace c33 := mt (i_le (a := k) (b := 1) (by omega) (by omega)).mpr (of_decide_eq_false c33)
        refine Pv.aload rfl rfl ?_
        refine Pv.iload rfl rfl ?_
        refine Pv.lit rfl ?_
        refine Pv.irem (z := Int32.ofNat (k % 3)) rfl (i_remN (by omega) (by decide) (by decide)) ?_
        refine Pv.iload rfl rfl ?_
        refine Pv.lit rfl ?_
        refine Pv.bin (z := Int32.ofNat (k - 2)) rfl (i_subN (a := k) (b := 2) (by omega)) ?_
        refine Pv.lit rfl ?_
        refine Pv.irem (z := Int32.ofNat ((k - 2) % 3)) rfl (i_remN (by omega) (by decide) (by decide)) ?_
        refine Pv.callV (as := [.ref 69, .int (Int32.ofNat (k % 3)), .int (Int32.ofNat ((k - 2) % 3))]) (rest := []) rfl rfl rfl (g_areAlike (k := k % 3) (j := (k - 2) % 3) hx32 (Nat.mod_lt _ (by decide)) (Nat.mod_lt _ (by decide))) ?_
        rintro _ Fe ⟨⟨z42, rfl⟩, ee⟩
        obtain rfl := ee.symm
        refine (show Pv _ _ 48 [some (.ref 69), some (.int w), some (.int (Int32.ofNat k))] [.int z42] G27 Q from ?_)
        refine Pv.if0 rfl (fun c43 => ?_) (fun c43 => ?_)
        · skip
          replace c43 := of_decide_eq_true c43
          refine Pv.aload rfl rfl ?_
          refine Pv.lit rfl ?_
          refine Pv.callV (as := [.ref 69, .int 1]) (rest := []) rfl rfl rfl (g_goesOn (n := 1) hx31 hs30 hx32 hTB (INV.sb (INV_days hTB hT.gb hI j)) (by omega)) ?_
          rintro _ G44 ⟨rfl, x45, hs46⟩
          have rt47 := RT.rx rt29 x45
          have hx48 := RT.T rt47 hT
          have hx49 := RT.G rt47 hG
          have bD50 := XS.db hs46
          refine (show Pv _ _ 69 [some (.ref 69), some (.int w), some (.int (Int32.ofNat k))] [.int (Int32.ofNat (h_d (m_days T (m_days T S j) 1) - h_d (m_days T S j)))] G44 Q from ?_)
          refine Pv.if0 rfl (fun c51 => ?_) (fun c51 => ?_)
          · skip
            replace c51 : decide (Int32.ofNat (h_d (m_days T (m_days T S j) 1) - h_d (m_days T S j)) = 0) = false := by simpa using c51
            replace c51 := mt (i_eq (a := h_d (m_days T (m_days T S j) 1) - h_d (m_days T S j)) (b := 0) (by omega) (by omega)).mpr (of_decide_eq_false c51)
            refine Pv.iinc (y := Int32.ofNat (k + 1)) (lo' := [some (.ref 69), some (.int w), some (.int (Int32.ofNat (k + 1)))]) rfl rfl (i_add k 1) rfl ?_
            refine Pv.goto rfl ?_
            exact ih11 (k + 1, w, G44, (j + 1)) (⟨by omega, rt47, hs46⟩)
          · skip
            replace c51 : decide (Int32.ofNat (h_d (m_days T (m_days T S j) 1) - h_d (m_days T S j)) = 0) = true := by simpa using c51
            replace c51 := (i_eq (a := h_d (m_days T (m_days T S j) 1) - h_d (m_days T S j)) (b := 0) (by omega) (by omega)).mp (of_decide_eq_true c51)
            refine Pv.lit rfl ?_
            refine Pv.istore (lo' := [some (.ref 69), some (.int w), some (.int 202)]) rfl rfl ?_
            refine Pv.iinc (y := Int32.ofNat (202 + 1)) (lo' := [some (.ref 69), some (.int w), some (.int (Int32.ofNat (202 + 1)))]) rfl rfl (i_add 202 1) rfl ?_
            refine Pv.goto rfl ?_
            exact ih11 (202 + 1, w, G44, (j + 1)) (⟨by omega, rt47, hs46⟩)
        · skip
          replace c43 := of_decide_eq_false c43
          refine Pv.aload rfl rfl ?_
          refine Pv.getR (v := .ref 71) rfl rfl (GW.at (a := 69) (k := 6) (b := 71) hx32 (by decide)) ?_
          refine Pv.lit rfl ?_
          refine Pv.ald (z := Int32.ofNat (h_d (m_days T S j))) rfl (hs30.d) ?_
          refine Pv.lit rfl ?_
          refine Pv.bin (z := (Int32.ofNat (h_d (m_days T S j))) - 2) rfl (rfl) ?_
          refine Pv.istore (lo' := [some (.ref 69), some (.int ((Int32.ofNat (h_d (m_days T S j))) - 2)), some (.int (Int32.ofNat k))]) rfl rfl ?_
          refine Pv.goto rfl ?_
          refine Pv.iinc (y := Int32.ofNat (k + 1)) (lo' := [some (.ref 69), some (.int ((Int32.ofNat (h_d (m_days T S j))) - 2)), some (.int (Int32.ofNat (k + 1)))]) rfl rfl (i_add k 1) rfl ?_
          refine Pv.goto rfl ?_
          exact ih11 (k + 1, (Int32.ofNat (h_d (m_days T S j))) - 2, G27, j) (⟨by omega, rt29, hs30⟩)
set_option maxRecDepth 100000 in
set_option maxHeartbeats 4000000 in
theorem q_fault {F : FW} : Pm Z_X11_fault [.ref 69] F (fun r F' => r = some (.int (F.1 69 15)) ∧ F' = fp F 69 0 0) := by
  refine Pm.of fun N => ?_
  obtain ⟨Q, hQ⟩ : ∃ Q : Option Value → FW → Prop, Q = (fun r F' => r = some (.int (F.1 69 15)) ∧ F' = fp F 69 0 0) := ⟨_, rfl⟩
  rw [← hQ]
  refine (show Pv (ab_T L_X11_fault) N 0 [some (.ref 69)] [] F Q from ?_)
  refine Pv.aload rfl rfl ?_
  refine Pv.lit rfl ?_
  refine Pv.putI rfl rfl ?_
  refine Pv.aload rfl rfl ?_
  refine Pv.getI (z := F.1 69 15) rfl rfl (fp_ne (Or.inr (by decide))) ?_
  exact Pv.ret rfl (by rw [hQ]; exact ⟨rfl, rfl⟩)
set_option maxRecDepth 100000 in
set_option maxHeartbeats 4000000 in
theorem q_count0 {F : FW} {T : St} (hT : XT F T) (hG : GW F) {e : Int32} (he : F.1 69 2 = e) : Pm Z_X11_count [.ref 69, .int 0] F (fun r F' => r = some (.int (a_count T e 0)) ∧ F' = fp F 69 0 0) := by
  refine Pm.of fun N => ?_
  obtain ⟨Q, hQ⟩ : ∃ Q : Option Value → FW → Prop, Q = (fun r F' => r = some (.int (a_count T e 0)) ∧ F' = fp F 69 0 0) := ⟨_, rfl⟩
  rw [← hQ]
  refine (show Pv (ab_T (L_X11_count Z_X11_isIn)) N 0 [some (.ref 69), some (.int 0)] [] F Q from ?_)
  refine Pv.aload rfl rfl ?_
  refine Pv.lit rfl ?_
  refine Pv.putI rfl rfl ?_
  refine Pv.iload rfl rfl ?_
  refine Pv.lit rfl ?_
  refine Pv.icmp rfl (fun c1 => ?_) (fun c1 => ?_)
  · skip
    replace c1 : decide ((0 : Int32) = 4) = false := by simpa using c1
    replace c1 := mt (i_eq (a := 0) (b := 4) (by omega) (by omega)).mpr (of_decide_eq_false c1)
    refine Pv.iload rfl rfl ?_
    refine Pv.lit rfl ?_
    refine Pv.lit rfl ?_
    refine Pv.callI (as := [.int 0, .int 0, .int 3]) (rest := []) (z := b2i (decide (0 ≤ (0 : Int32)) && decide ((0 : Int32) ≤ 3))) rfl rfl rfl (q_isIn 0 0 3) ?_
    refine Pv.if0 rfl (fun c2 => ?_) (fun c2 => ?_)
    · skip
      replace c2 := of_decide_eq_true c2
      replace c2 := b2z.mp c2
      exact absurd c2 (by decide)
    · skip
      replace c2 := of_decide_eq_false c2
      replace c2 := b2n.mp c2
      refine Pv.aload rfl rfl ?_
      refine Pv.getR (v := .ref 71) rfl rfl (GW.at (a := 69) (k := 6) (b := 71) hG (by decide)) ?_
      refine Pv.iload rfl rfl ?_
      refine Pv.ald (z := Int32.ofNat (t_g T)) rfl ((fp_ne (Or.inl (by decide))).trans (hT.g)) ?_
      refine Pv.goto rfl ?_
      exact Pv.ret rfl (by rw [hQ]; exact ⟨rfl, rfl⟩)
  · skip
    replace c1 : decide ((0 : Int32) = 4) = true := by simpa using c1
    replace c1 := (i_eq (a := 0) (b := 4) (by omega) (by omega)).mp (of_decide_eq_true c1)
    omega
set_option maxRecDepth 100000 in
set_option maxHeartbeats 4000000 in
theorem q_count1 {F : FW} {T : St} (hT : XT F T) (hG : GW F) {e : Int32} (he : F.1 69 2 = e) : Pm Z_X11_count [.ref 69, .int 1] F (fun r F' => r = some (.int (a_count T e 1)) ∧ F' = fp F 69 0 0) := by
  refine Pm.of fun N => ?_
  obtain ⟨Q, hQ⟩ : ∃ Q : Option Value → FW → Prop, Q = (fun r F' => r = some (.int (a_count T e 1)) ∧ F' = fp F 69 0 0) := ⟨_, rfl⟩
  rw [← hQ]
  refine (show Pv (ab_T (L_X11_count Z_X11_isIn)) N 0 [some (.ref 69), some (.int 1)] [] F Q from ?_)
  refine Pv.aload rfl rfl ?_
  refine Pv.lit rfl ?_
  refine Pv.putI rfl rfl ?_
  refine Pv.iload rfl rfl ?_
  refine Pv.lit rfl ?_
  refine Pv.icmp rfl (fun c1 => ?_) (fun c1 => ?_)
  · skip
    replace c1 : decide ((1 : Int32) = 4) = false := by simpa using c1
    replace c1 := mt (i_eq (a := 1) (b := 4) (by omega) (by omega)).mpr (of_decide_eq_false c1)
    refine Pv.iload rfl rfl ?_
    refine Pv.lit rfl ?_
    refine Pv.lit rfl ?_
    refine Pv.callI (as := [.int 1, .int 0, .int 3]) (rest := []) (z := b2i (decide (0 ≤ (1 : Int32)) && decide ((1 : Int32) ≤ 3))) rfl rfl rfl (q_isIn 1 0 3) ?_
    refine Pv.if0 rfl (fun c2 => ?_) (fun c2 => ?_)
    · skip
      replace c2 := of_decide_eq_true c2
      replace c2 := b2z.mp c2
      exact absurd c2 (by decide)
    · skip
      replace c2 := of_decide_eq_false c2
      replace c2 := b2n.mp c2
      refine Pv.aload rfl rfl ?_
      refine Pv.getR (v := .ref 71) rfl rfl (GW.at (a := 69) (k := 6) (b := 71) hG (by decide)) ?_
      refine Pv.iload rfl rfl ?_
      refine Pv.ald (z := Int32.ofNat (t_m T)) rfl ((fp_ne (Or.inl (by decide))).trans (hT.m)) ?_
      refine Pv.goto rfl ?_
      exact Pv.ret rfl (by rw [hQ]; exact ⟨rfl, rfl⟩)
  · skip
    replace c1 : decide ((1 : Int32) = 4) = true := by simpa using c1
    replace c1 := (i_eq (a := 1) (b := 4) (by omega) (by omega)).mp (of_decide_eq_true c1)
    omega
set_option maxRecDepth 100000 in
set_option maxHeartbeats 4000000 in
theorem q_count2 {F : FW} {T : St} (hT : XT F T) (hG : GW F) {e : Int32} (he : F.1 69 2 = e) : Pm Z_X11_count [.ref 69, .int 2] F (fun r F' => r = some (.int (a_count T e 2)) ∧ F' = fp F 69 0 0) := by
  refine Pm.of fun N => ?_
  obtain ⟨Q, hQ⟩ : ∃ Q : Option Value → FW → Prop, Q = (fun r F' => r = some (.int (a_count T e 2)) ∧ F' = fp F 69 0 0) := ⟨_, rfl⟩
  rw [← hQ]
  refine (show Pv (ab_T (L_X11_count Z_X11_isIn)) N 0 [some (.ref 69), some (.int 2)] [] F Q from ?_)
  refine Pv.aload rfl rfl ?_
  refine Pv.lit rfl ?_
  refine Pv.putI rfl rfl ?_
  refine Pv.iload rfl rfl ?_
  refine Pv.lit rfl ?_
  refine Pv.icmp rfl (fun c1 => ?_) (fun c1 => ?_)
  · skip
    replace c1 : decide ((2 : Int32) = 4) = false := by simpa using c1
    replace c1 := mt (i_eq (a := 2) (b := 4) (by omega) (by omega)).mpr (of_decide_eq_false c1)
    refine Pv.iload rfl rfl ?_
    refine Pv.lit rfl ?_
    refine Pv.lit rfl ?_
    refine Pv.callI (as := [.int 2, .int 0, .int 3]) (rest := []) (z := b2i (decide (0 ≤ (2 : Int32)) && decide ((2 : Int32) ≤ 3))) rfl rfl rfl (q_isIn 2 0 3) ?_
    refine Pv.if0 rfl (fun c2 => ?_) (fun c2 => ?_)
    · skip
      replace c2 := of_decide_eq_true c2
      replace c2 := b2z.mp c2
      exact absurd c2 (by decide)
    · skip
      replace c2 := of_decide_eq_false c2
      replace c2 := b2n.mp c2
      refine Pv.aload rfl rfl ?_
      refine Pv.getR (v := .ref 71) rfl rfl (GW.at (a := 69) (k := 6) (b := 71) hG (by decide)) ?_
      refine Pv.iload rfl rfl ?_
      refine Pv.ald (z := t_l T) rfl ((fp_ne (Or.inl (by decide))).trans (hT.l)) ?_
      refine Pv.goto rfl ?_
      exact Pv.ret rfl (by rw [hQ]; exact ⟨rfl, rfl⟩)
  · skip
    replace c1 : decide ((2 : Int32) = 4) = true := by simpa using c1
    replace c1 := (i_eq (a := 2) (b := 4) (by omega) (by omega)).mp (of_decide_eq_true c1)
    omega
set_option maxRecDepth 100000 in
set_option maxHeartbeats 4000000 in
theorem q_count3 {F : FW} {T : St} (hT : XT F T) (hG : GW F) {e : Int32} (he : F.1 69 2 = e) : Pm Z_X11_count [.ref 69, .int 3] F (fun r F' => r = some (.int (a_count T e 3)) ∧ F' = fp F 69 0 0) := by
  refine Pm.of fun N => ?_
  obtain ⟨Q, hQ⟩ : ∃ Q : Option Value → FW → Prop, Q = (fun r F' => r = some (.int (a_count T e 3)) ∧ F' = fp F 69 0 0) := ⟨_, rfl⟩
  rw [← hQ]
  refine (show Pv (ab_T (L_X11_count Z_X11_isIn)) N 0 [some (.ref 69), some (.int 3)] [] F Q from ?_)
  refine Pv.aload rfl rfl ?_
  refine Pv.lit rfl ?_
  refine Pv.putI rfl rfl ?_
  refine Pv.iload rfl rfl ?_
  refine Pv.lit rfl ?_
  refine Pv.icmp rfl (fun c1 => ?_) (fun c1 => ?_)
  · skip
    replace c1 : decide ((3 : Int32) = 4) = false := by simpa using c1
    replace c1 := mt (i_eq (a := 3) (b := 4) (by omega) (by omega)).mpr (of_decide_eq_false c1)
    refine Pv.iload rfl rfl ?_
    refine Pv.lit rfl ?_
    refine Pv.lit rfl ?_
    refine Pv.callI (as := [.int 3, .int 0, .int 3]) (rest := []) (z := b2i (decide (0 ≤ (3 : Int32)) && decide ((3 : Int32) ≤ 3))) rfl rfl rfl (q_isIn 3 0 3) ?_
    refine Pv.if0 rfl (fun c2 => ?_) (fun c2 => ?_)
    · skip
      replace c2 := of_decide_eq_true c2
      replace c2 := b2z.mp c2
      exact absurd c2 (by decide)
    · skip
      replace c2 := of_decide_eq_false c2
      replace c2 := b2n.mp c2
      refine Pv.aload rfl rfl ?_
      refine Pv.getR (v := .ref 71) rfl rfl (GW.at (a := 69) (k := 6) (b := 71) hG (by decide)) ?_
      refine Pv.iload rfl rfl ?_
      refine Pv.ald (z := Int32.ofNat (t_n T)) rfl ((fp_ne (Or.inl (by decide))).trans (hT.n)) ?_
      refine Pv.goto rfl ?_
      exact Pv.ret rfl (by rw [hQ]; exact ⟨rfl, rfl⟩)
  · skip
    replace c1 : decide ((3 : Int32) = 4) = true := by simpa using c1
    replace c1 := (i_eq (a := 3) (b := 4) (by omega) (by omega)).mp (of_decide_eq_true c1)
    omega
set_option maxRecDepth 100000 in
set_option maxHeartbeats 4000000 in
theorem q_count4 {F : FW} {T : St} (hT : XT F T) (hG : GW F) {e : Int32} (he : F.1 69 2 = e) : Pm Z_X11_count [.ref 69, .int 4] F (fun r F' => r = some (.int (a_count T e 4)) ∧ F' = fp F 69 0 0) := by
  refine Pm.of fun N => ?_
  obtain ⟨Q, hQ⟩ : ∃ Q : Option Value → FW → Prop, Q = (fun r F' => r = some (.int (a_count T e 4)) ∧ F' = fp F 69 0 0) := ⟨_, rfl⟩
  rw [← hQ]
  refine (show Pv (ab_T (L_X11_count Z_X11_isIn)) N 0 [some (.ref 69), some (.int 4)] [] F Q from ?_)
  refine Pv.aload rfl rfl ?_
  refine Pv.lit rfl ?_
  refine Pv.putI rfl rfl ?_
  refine Pv.iload rfl rfl ?_
  refine Pv.lit rfl ?_
  refine Pv.icmp rfl (fun c1 => ?_) (fun c1 => ?_)
  · skip
    replace c1 : decide ((4 : Int32) = 4) = false := by simpa using c1
    replace c1 := mt (i_eq (a := 4) (b := 4) (by omega) (by omega)).mpr (of_decide_eq_false c1)
    omega
  · skip
    replace c1 : decide ((4 : Int32) = 4) = true := by simpa using c1
    replace c1 := (i_eq (a := 4) (b := 4) (by omega) (by omega)).mp (of_decide_eq_true c1)
    refine Pv.aload rfl rfl ?_
    refine Pv.getI (z := e) rfl rfl ((fp_ne (Or.inr (by decide))).trans (he)) ?_
    refine Pv.goto rfl ?_
    exact Pv.ret rfl (by rw [hQ]; exact ⟨rfl, rfl⟩)
set_option maxRecDepth 100000 in
set_option maxHeartbeats 4000000 in
theorem q_countn {F : FW} {T : St} (hT : XT F T) (hG : GW F) {e : Int32} (he : F.1 69 2 = e) {w : Int32} (hw : nd 5 w = none) : Pm Z_X11_count [.ref 69, .int w] F (fun r F' => r = some (.int (a_count T e w)) ∧ F' = fp F 69 0 0) := by
  refine Pm.of fun N => ?_
  obtain ⟨Q, hQ⟩ : ∃ Q : Option Value → FW → Prop, Q = (fun r F' => r = some (.int (a_count T e w)) ∧ F' = fp F 69 0 0) := ⟨_, rfl⟩
  rw [← hQ]
  refine (show Pv (ab_T (L_X11_count Z_X11_isIn)) N 0 [some (.ref 69), some (.int w)] [] F Q from ?_)
  refine Pv.aload rfl rfl ?_
  refine Pv.lit rfl ?_
  refine Pv.putI rfl rfl ?_
  refine Pv.iload rfl rfl ?_
  refine Pv.lit rfl ?_
  refine Pv.icmp rfl (fun c1 => ?_) (fun c1 => ?_)
  · skip
    replace c1 : decide (w = 4) = false := by simpa using c1
    replace c1 := of_decide_eq_false c1
    refine Pv.iload rfl rfl ?_
    refine Pv.lit rfl ?_
    refine Pv.lit rfl ?_
    refine Pv.callI (as := [.int w, .int 0, .int 3]) (rest := []) (z := b2i (decide (0 ≤ w) && decide (w ≤ 3))) rfl rfl rfl (q_isIn w 0 3) ?_
    refine Pv.if0 rfl (fun c2 => ?_) (fun c2 => ?_)
    · skip
      replace c2 := of_decide_eq_true c2
      replace c2 := b2z.mp c2
      refine Pv.lit rfl ?_
      exact Pv.ret rfl (by rw [hQ]; exact ⟨by unfold a_count; rw [hw], rfl⟩)
    · skip
      replace c2 := of_decide_eq_false c2
      replace c2 := b2n.mp c2
      exact absurd ((nd_in2 (n := 4) (m := 3) rfl (by decide)).symm.trans c2) (by rw [nd_53 hw]; decide)
  · skip
    replace c1 : decide (w = 4) = true := by simpa using c1
    replace c1 := of_decide_eq_true c1
    exact absurd c1 (nd_54 hw)
end
