/-! ===== what stays so: bounds of all that is so ===== -/
theorem cT_ge {T : St} {S : Sh} {j : Nat} : ∀ {k : Nat}, k ≤ j → m_cT T S k j = h_t S j
  | 0, _ => rfl
  | k + 1, h => by
    show (if m_bit (m_board T S) k = true then up1 (m_cT T S k) k (m_cT T S k k + 1) else m_cT T S k) j = _
    by_cases c : m_bit (m_board T S) k = true
    · rw [if_pos c, up1_ne (by omega)]
      exact cT_ge (by omega)
    · rw [if_neg c]
      exact cT_ge (by omega)
theorem cT_lt {T : St} {S : Sh} {j : Nat} : ∀ {k : Nat}, j < k → m_cT T S k j = if m_bit (m_board T S) j = true then h_t S j + 1 else h_t S j
  | k + 1, h => by
    show (if m_bit (m_board T S) k = true then up1 (m_cT T S k) k (m_cT T S k k + 1) else m_cT T S k) j = _
    by_cases e : j = k
    · subst e
      by_cases c : m_bit (m_board T S) j = true
      · rw [if_pos c, if_pos c, up1_eq, cT_ge (Nat.le_refl j)]
      · rw [if_neg c, if_neg c, cT_ge (Nat.le_refl j)]
    · by_cases c : m_bit (m_board T S) k = true
      · rw [if_pos c, up1_ne e]
        exact cT_lt (by omega)
      · rw [if_neg c]
        exact cT_lt (by omega)
theorem t_day {T : St} {S : Sh} {j : Nat} (hj : j < t_m T) : h_t (m_day T S) j = if m_bit (m_board T S) j = true then h_t S j + 1 else h_t S j := cT_lt hj
theorem cC_1 {T : St} {S : Sh} {k : Nat} : ∀ {g : Nat}, k < g → m_cC T S g (2 * k + (1 - m_from S)) = h_c S (2 * k + (1 - m_from S)) + m_fr T S k
  | g + 1, h => by
    have b6 := m_from_lt S
    show up1 (m_cC T S g) _ _ _ = _
    by_cases c : k = g
    · subst c
      rw [up1_eq, cC_ge (by omega)]
    · rw [up1_ne (by omega)]
      exact cC_1 (by omega)
theorem cC_2 {T : St} {S : Sh} {k : Nat} : ∀ {g : Nat}, m_cC T S g (2 * k + m_from S) = h_c S (2 * k + m_from S)
  | 0 => rfl
  | g + 1 => by
    have b6 := m_from_lt S
    show up1 (m_cC T S g) _ _ _ = _
    rw [up1_ne (by omega)]
    exact cC_2
theorem c_day {T : St} {S : Sh} {g s : Nat} (hg : g < t_g T) (hs : s < 2) : h_c (m_day T S) (2 * g + s) = if m_from S = s then h_c S (2 * g + s) else h_c S (2 * g + s) + m_fr T S g := by
  have b6 := m_from_lt S
  show m_cC T S (t_g T) (2 * g + s) = _
  by_cases c : m_from S = s
  · rw [if_pos c, ← c, cC_2]
  · rw [if_neg c, show s = 1 - m_from S by omega, cC_1 hg]
/-- how often men crossed; how much came -/
def TRB (T : St) (S : Sh) : Prop := ∀ m, m < t_m T → 0 ≤ (h_t S m).toInt ∧ (h_t S m).toInt ≤ (h_d S : Int)
def CBD (S : Sh) : Prop := ∀ k, k < 12 → 0 ≤ (h_c S k).toInt ∧ (h_c S k).toInt ≤ 40 * (h_d S : Int)
def INV (T : St) (S : Sh) : Prop := SB S ∧ HB S ∧ AB T S ∧ TRB T S ∧ CBD S ∧ h_d S ≤ 400
theorem INV.sb {T : St} {S : Sh} (h : INV T S) : SB S := h.1
theorem INV.hb {T : St} {S : Sh} (h : INV T S) : HB S := h.2.1
theorem INV.ab {T : St} {S : Sh} (h : INV T S) : AB T S := h.2.2.1
theorem INV.tr {T : St} {S : Sh} (h : INV T S) : TRB T S := h.2.2.2.1
theorem INV.cb {T : St} {S : Sh} (h : INV T S) : CBD S := h.2.2.2.2.1
theorem INV.db {T : St} {S : Sh} (h : INV T S) : h_d S ≤ 400 := h.2.2.2.2.2
theorem i_1 : (1 : Int32).toInt = 1 := rfl
theorem cA_v {T : St} {S : Sh} {j : Nat} : ∀ {k : Nat}, m_cA T S k j = h_a S j ∨ m_cA T S k j = Int32.ofNat (1 - m_from S)
  | 0 => Or.inl rfl
  | k + 1 => by
    show (if m_bit (m_board T S) k = true then up1 (m_cA T S k) k (Int32.ofNat (1 - m_from S)) else m_cA T S k) j = _ ∨ (if m_bit (m_board T S) k = true then up1 (m_cA T S k) k (Int32.ofNat (1 - m_from S)) else m_cA T S k) j = _
    by_cases c : m_bit (m_board T S) k = true
    · rw [if_pos c]
      by_cases e : j = k
      · rw [e, up1_eq]
        exact Or.inr rfl
      · rw [up1_ne e]
        exact cA_v
    · rw [if_neg c]
      exact cA_v
theorem INV_day {T : St} {S : Sh} (hT : TBB T) (hg : t_g T ≤ 6) (h : INV T S) (hd : h_d S < 400) : INV T (m_day T S) := by
  have b6 := m_from_lt S
  have e0 : ((h_d S + 1 : Nat) : Int) = (h_d S : Int) + 1 := by omega
  refine ⟨SB_day hT h.sb hg, HB_day hT h.sb hg h.hb, fun k hk => ?_, fun m hm => ?_, fun k hk => ?_, (show h_d S + 1 ≤ 400 by omega)⟩
  · show m_cA T S (t_m T) k = -1 ∨ m_cA T S (t_m T) k = 0 ∨ m_cA T S (t_m T) k = 1
    rcases cA_v (T := T) (S := S) (j := k) (k := t_m T) with e | e
    · rw [e]
      exact h.ab k hk
    · rw [e]
      have : m_from S = 0 ∨ m_from S = 1 := by omega
      rcases this with q | q
      · rw [q]
        exact Or.inr (Or.inr rfl)
      · rw [q]
        exact Or.inr (Or.inl rfl)
  · have a := h.tr m hm
    rw [t_day hm]
    show _ ∧ _ ≤ ((h_d S + 1 : Nat) : Int)
    rw [e0]
    by_cases c : m_bit (m_board T S) m = true
    · rw [if_pos c, i_addI (by rw [i_1]; omega) (by rw [i_1]; omega), i_1]
      omega
    · rw [if_neg c]
      omega
  · have a := h.cb k hk
    show 0 ≤ (m_cC T S (t_g T) k).toInt ∧ (m_cC T S (t_g T) k).toInt ≤ 40 * ((h_d S + 1 : Nat) : Int)
    rw [e0]
    by_cases c : 2 * t_g T ≤ k
    · rw [cC_ge c]
      omega
    · have f1 := fr_b hT h.sb (g := k / 2) (by omega)
      have f2 := fr_r hT h.sb (g := k / 2) (by omega)
      by_cases e : k = 2 * (k / 2) + m_from S
      · have q := cC_2 (T := T) (S := S) (k := k / 2) (g := t_g T)
        rw [← e] at q
        rw [q]
        omega
      · have e2 : k = 2 * (k / 2) + (1 - m_from S) := by omega
        have q := cC_1 (T := T) (S := S) (k := k / 2) (g := t_g T) (by omega)
        rw [← e2] at q
        rw [q, i_addI (by omega) (by omega)]
        omega
theorem INV_days {T : St} {S : Sh} (hT : TBB T) (hg : t_g T ≤ 6) (h : INV T S) : ∀ n, INV T (m_days T S n)
  | 0 => h
  | n + 1 => by
    by_cases c : h_d (m_days T S n) < 400
    · rw [m_days_s c]
      exact INV_day hT hg (INV_days hT hg h n) c
    · rw [show m_days T S (n + 1) = m_days T S n from if_neg c]
      exact INV_days hT hg h n
theorem hd_1 (T : St) (S : Sh) : (h_d S < 400 ∧ h_d (m_days T S 1) = h_d S + 1) ∨ (¬ h_d S < 400 ∧ h_d (m_days T S 1) = h_d S) := by
  by_cases c : h_d S < 400
  · refine Or.inl ⟨c, ?_⟩
    rw [show m_days T S 1 = m_day T S from if_pos c]
    rfl
  · refine Or.inr ⟨c, ?_⟩
    rw [show m_days T S 1 = S from if_neg c]
theorem alive_day {T : St} {S : Sh} (h8 : t_m T ≤ 8) {j : Nat} : m_alive (m_day T S) j = m_alive S j := alive_carry h8
theorem alive_days {T : St} {S : Sh} (h8 : t_m T ≤ 8) {j : Nat} : ∀ n, m_alive (m_days T S n) j = m_alive S j
  | 0 => rfl
  | n + 1 => by
    by_cases c : h_d (m_days T S n) < 400
    · rw [m_days_s c, alive_day h8]
      exact alive_days h8 n
    · rw [show m_days T S (n + 1) = m_days T S n from if_neg c]
      exact alive_days h8 n
/-! deeds -/
theorem why0 {S : Sh} {k : Nat} {n : Int32} (h : m_why 0 S k n = 0) : ¬ h_s S k < n := fun c => by
  have e : m_why 0 S k n = 1 := if_pos c
  rw [e] at h
  exact absurd h (by decide)
theorem why2 {S : Sh} {k : Nat} {n : Int32} (h : m_why 2 S k n = 0) : ¬ h_s S k < n := why0 h
theorem why1 {S : Sh} {k : Nat} {n : Int32} (h : m_why 1 S k n = 0) : ¬ h_h S k < n ∧ ¬ 999 < h_s S k + n := by
  by_cases c : h_h S k < n
  · have e : m_why 1 S k n = 1 := if_pos c
    rw [e] at h
    exact absurd h (by decide)
  · by_cases d : 999 < h_s S k + n
    · have e : m_why 1 S k n = 2 := (if_neg c).trans (if_pos d)
      rw [e] at h
      exact absurd h (by decide)
    · exact ⟨c, d⟩
theorem an_s (a b : Int32) : a + -b = a - b := (Int32.sub_eq_add_neg a b).symm
theorem INV_do0 {T : St} {S : Sh} {k n : Nat} (h : INV T S) (hk : k < 12) (hn : n ≤ 250) (c : ¬ h_s S k < Int32.ofNat n) : INV T (m_do 0 S k (Int32.ofNat n)) := by
  have en : (Int32.ofNat n).toInt = n := i_toInt (by omega)
  rw [Int32.lt_iff_toInt_lt, en] at c
  have sk := h.sb k hk
  have uk := h.hb k hk
  have db := h.db
  have e1 : (h_s S k + -Int32.ofNat n).toInt = (h_s S k).toInt - n := by rw [an_s, i_subI (by omega) (by omega), en]
  have e2 : (h_h S k + Int32.ofNat n).toInt = (h_h S k).toInt + n := by rw [i_addI (by omega) (by omega), en]
  refine ⟨fun j hj => ?_, fun j hj => ?_, h.ab, h.tr, h.cb, h.db⟩
  · show 0 ≤ (up1 (h_s S) k (h_s S k + -Int32.ofNat n) j).toInt ∧ (up1 (h_s S) k (h_s S k + -Int32.ofNat n) j).toInt ≤ 999
    by_cases e : j = k
    · rw [e, up1_eq, e1]
      omega
    · rw [up1_ne e]
      exact h.sb j hj
  · show 0 ≤ (up1 (h_h S) k (h_h S k + Int32.ofNat n) j).toInt ∧ (up1 (h_s S) k (h_s S k + -Int32.ofNat n) j).toInt + (up1 (h_h S) k (h_h S k + Int32.ofNat n) j).toInt ≤ 250 + 290 * (h_d S : Int)
    by_cases e : j = k
    · rw [e, up1_eq, up1_eq, e1, e2]
      omega
    · rw [up1_ne e, up1_ne e]
      exact h.hb j hj
theorem INV_do1 {T : St} {S : Sh} {k n : Nat} (h : INV T S) (hk : k < 12) (hn : n ≤ 250) (c1 : ¬ h_h S k < Int32.ofNat n) (c2 : ¬ 999 < h_s S k + Int32.ofNat n) : INV T (m_do 1 S k (Int32.ofNat n)) := by
  have en : (Int32.ofNat n).toInt = n := i_toInt (by omega)
  have sk := h.sb k hk
  have uk := h.hb k hk
  have db := h.db
  have e1 : (h_s S k + Int32.ofNat n).toInt = (h_s S k).toInt + n := by rw [i_addI (by omega) (by omega), en]
  rw [Int32.lt_iff_toInt_lt, en] at c1
  rw [Int32.lt_iff_toInt_lt, e1, i_999] at c2
  have e2 : (h_h S k - Int32.ofNat n).toInt = (h_h S k).toInt - n := by rw [i_subI (by omega) (by omega), en]
  refine ⟨fun j hj => ?_, fun j hj => ?_, h.ab, h.tr, h.cb, h.db⟩
  · show 0 ≤ (up1 (h_s S) k (h_s S k + Int32.ofNat n) j).toInt ∧ (up1 (h_s S) k (h_s S k + Int32.ofNat n) j).toInt ≤ 999
    by_cases e : j = k
    · rw [e, up1_eq, e1]
      omega
    · rw [up1_ne e]
      exact h.sb j hj
  · show 0 ≤ (up1 (h_h S) k (h_h S k - Int32.ofNat n) j).toInt ∧ (up1 (h_s S) k (h_s S k + Int32.ofNat n) j).toInt + (up1 (h_h S) k (h_h S k - Int32.ofNat n) j).toInt ≤ 250 + 290 * (h_d S : Int)
    by_cases e : j = k
    · rw [e, up1_eq, up1_eq, e1, e2]
      omega
    · rw [up1_ne e, up1_ne e]
      exact h.hb j hj
theorem INV_do2 {T : St} {S : Sh} {k n : Nat} (h : INV T S) (hk : k < 12) (hn : n ≤ 250) (c : ¬ h_s S k < Int32.ofNat n) : INV T (m_do 2 S k (Int32.ofNat n)) := by
  have en : (Int32.ofNat n).toInt = n := i_toInt (by omega)
  rw [Int32.lt_iff_toInt_lt, en] at c
  have sk := h.sb k hk
  have uk := h.hb k hk
  have db := h.db
  have e1 : (h_s S k + -Int32.ofNat n).toInt = (h_s S k).toInt - n := by rw [an_s, i_subI (by omega) (by omega), en]
  refine ⟨fun j hj => ?_, fun j hj => ?_, h.ab, h.tr, h.cb, h.db⟩
  · show 0 ≤ (up1 (h_s S) k (h_s S k + -Int32.ofNat n) j).toInt ∧ (up1 (h_s S) k (h_s S k + -Int32.ofNat n) j).toInt ≤ 999
    by_cases e : j = k
    · rw [e, up1_eq, e1]
      omega
    · rw [up1_ne e]
      exact h.sb j hj
  · show 0 ≤ (h_h S j).toInt ∧ (up1 (h_s S) k (h_s S k + -Int32.ofNat n) j).toInt + (h_h S j).toInt ≤ 250 + 290 * (h_d S : Int)
    have uj := h.hb j hj
    by_cases e : j = k
    · rw [e, up1_eq, e1]
      omega
    · rw [up1_ne e]
      exact uj
theorem INV_do3 {T : St} {S : Sh} {k : Nat} {n : Int32} (h : INV T S) : INV T (m_do 3 S k n) := by
  refine ⟨h.sb, h.hb, fun j hj => ?_, h.tr, h.cb, h.db⟩
  show up1 (h_a S) k (-1) j = -1 ∨ up1 (h_a S) k (-1) j = 0 ∨ up1 (h_a S) k (-1) j = 1
  by_cases e : j = k
  · rw [e, up1_eq]
    exact Or.inl rfl
  · rw [up1_ne e]
    exact h.ab j hj
theorem INV_try {T : St} {S : Sh} {d k n : Nat} (h : INV T S) (hd : d < 3) (hk : k < 12) (hn : n ≤ 250) : INV T (m_try d S k (Int32.ofNat n)) := by
  unfold m_try
  by_cases c : m_why d S k (Int32.ofNat n) = 0
  · rw [if_pos c]
    match d, hd, c with
    | 0, _, c => exact INV_do0 h hk hn (why0 c)
    | 1, _, c => exact INV_do1 h hk hn (why1 c).1 (why1 c).2
    | 2, _, c => exact INV_do2 h hk hn (why2 c)
    | d + 3, q, _ => exact absurd q (by omega)
  · rw [if_neg c]
    exact h
theorem INV_try3 {T : St} {S : Sh} {k : Nat} {n : Int32} (h : INV T S) : INV T (m_try 3 S k n) := by
  unfold m_try
  by_cases c : m_why 3 S k n = 0
  · rw [if_pos c]
    exact INV_do3 h
  · rw [if_neg c]
    exact h
theorem INV_dD {T : St} {S : Sh} {x : Int32} (h : INV T S) (hg : t_g T ≤ 6) (h0 : 0 < t_g T) : INV T (m_dDs T S x) := by
  unfold m_dDs
  by_cases c : dr (m_nx x) 6 < 3
  · rw [if_pos c]
    have a1 : dr (m_nx (m_nx x)) (t_g T) < t_g T := Nat.mod_lt _ h0
    have a2 : dr (m_nx (m_nx (m_nx x))) 2 < 2 := Nat.mod_lt _ (by decide)
    have a3 : dr (m_nx (m_nx (m_nx (m_nx x)))) 20 < 20 := Nat.mod_lt _ (by decide)
    exact INV_try h c (by omega) (by omega)
  · rw [if_neg c]
    exact h
theorem INV_dX {T : St} {S : Sh} {x : Int32} (h : INV T S) : INV T (m_dXs T S x) := by
  unfold m_dXs
  by_cases c : dr (m_nx x) 90 = 0 ∧ 0 < t_m T
  · rw [if_pos c]
    exact INV_try3 h
  · rw [if_neg c]
    exact h
theorem INV_drawn {T : St} {q : Sh × Int32} (hT : TBB T) (hg : t_g T ≤ 6) (h0 : 0 < t_g T) (h : INV T q.1) : ∀ n, INV T (m_drawn T q n).1
  | 0 => h
  | n + 1 => by
    have ih := INV_drawn hT hg h0 h n
    by_cases c : h_d (m_drawn T q n).1 < 400
    · rw [drawn_1 c]
      exact INV_day hT hg (INV_dX (INV_dD ih hg h0)) (by rw [h_d_drawX, h_d_drawD]; exact c)
    · rw [show m_drawn T q (n + 1) = m_drawn T q n from if_neg c]
      exact ih
theorem INV_act {T : St} {S : Sh} {d : Nat} {x y z : Int32} (h : INV T S) (hg : t_g T ≤ 6) (hd : d < 3) : INV T (m_act d T S x y z) := by
  unfold m_act
  split
  · rename_i g s n e1 e2 e3
    have a1 := (nd_some e1).1
    have a2 := (nd_some e2).1
    have a3 := (ndr_some e3).2.1
    exact INV_try h hd (by omega) a3
  · exact h
theorem INV_die {T : St} {S : Sh} {x : Int32} (h : INV T S) : INV T (m_die T S x) := by
  unfold m_die
  split
  · exact h
  · exact INV_try3 h
theorem INV_dys {T : St} {S : Sh} {x : Int32} (h : INV T S) (hT : TBB T) (hg : t_g T ≤ 6) : INV T (m_dys T S x) := by
  unfold m_dys
  split
  · exact h
  · exact INV_days hT hg h _
theorem INV_dwn {T : St} {S : Sh} {x z : Int32} (h : INV T S) (hT : TBB T) (hg : t_g T ≤ 6) : INV T (m_dwn T S x z) := by
  unfold m_dwn
  split
  · exact h
  · rename_i k e
    by_cases c : t_g T = 0
    · rw [if_pos c]
      exact h
    · rw [if_neg c]
      exact INV_drawn (q := (S, z)) hT hg (by omega) h k
/-! ===== the first DAY on which somebody, something crosses, by what is counted ===== -/
theorem m_fst_l {P : Nat → Bool} {k : Nat} (h : m_fst P (k + 1) = none) : m_fst P k = none ∧ P k = false := by
  refine ⟨?_, m_fst_all h k (Nat.lt_succ_self k)⟩
  unfold m_fst at h
  split at h
  · cases h
  · rename_i e
    exact e
theorem t_days {T : St} {S : Sh} {m : Nat} (hm : m < t_m T) : ∀ {k : Nat}, m_fst (pCross T S m) k = none → h_t (m_days T S k) m = h_t S m
  | 0, _ => rfl
  | k + 1, h => by
    obtain ⟨h1, h2⟩ := m_fst_l h
    by_cases c : h_d (m_days T S k) < 400
    · rw [m_days_s c, t_day hm]
      unfold pCross at h2
      rw [decide_eq_true c, Bool.true_and] at h2
      rw [if_neg (by rw [h2]; decide)]
      exact t_days hm h1
    · rw [show m_days T S (k + 1) = m_days T S k from if_neg c]
      exact t_days hm h1
theorem cross_iff {T : St} {S : Sh} {m k : Nat} (hm : m < t_m T) (hI : INV T S) (h : m_fst (pCross T S m) k = none) (c : h_d (m_days T S k) < 400) : h_t S m < h_t (m_days T S (k + 1)) m ↔ pCross T S m k = true := by
  have a := hI.tr m hm
  have d := hI.db
  rw [m_days_s c, t_day hm, t_days hm h]
  unfold pCross
  rw [decide_eq_true c, Bool.true_and]
  by_cases q : m_bit (m_board T (m_days T S k)) m = true
  · rw [if_pos q, Int32.lt_iff_toInt_lt, i_addI (by rw [i_1]; omega) (by rw [i_1]; omega), i_1]
    exact ⟨fun _ => q, fun _ => by omega⟩
  · rw [if_neg q, Int32.lt_iff_toInt_lt]
    exact ⟨fun z => absurd z (by omega), fun z => absurd z q⟩
theorem i_z {a : Int32} (h1 : 0 ≤ a.toInt) (h2 : a ≤ 0) : a = 0 := by
  rw [Int32.le_iff_toInt_le, i_0] at h2
  exact Int32.toInt_inj.mp (by rw [i_0]; omega)
theorem c_days {T : St} {S : Sh} {g s : Nat} (hT : TBB T) (hg6 : t_g T ≤ 6) (hI : INV T S) (hg : g < t_g T) (hs : s < 2) : ∀ {k : Nat}, m_fst (pComes T S g s) k = none → h_c (m_days T S k) (2 * g + s) = h_c S (2 * g + s)
  | 0, _ => rfl
  | k + 1, h => by
    obtain ⟨h1, h2⟩ := m_fst_l h
    have ih := c_days hT hg6 hI hg hs h1
    by_cases c : h_d (m_days T S k) < 400
    · rw [m_days_s c, c_day hg hs]
      by_cases q : m_from (m_days T S k) = s
      · rw [if_pos q]
        exact ih
      · unfold pComes at h2
        rw [decide_eq_true c, Bool.true_and, decide_eq_false q, Bool.not_false, Bool.true_and, Bool.not_eq_false'] at h2
        have f := fr_b hT (INV_days hT hg6 hI k).sb (g := g) (by omega)
        rw [if_neg q, ih, i_z f.1 (of_decide_eq_true h2), Int32.add_zero]
    · rw [show m_days T S (k + 1) = m_days T S k from if_neg c]
      exact ih
theorem comes_iff {T : St} {S : Sh} {g s k : Nat} (hT : TBB T) (hg6 : t_g T ≤ 6) (hI : INV T S) (hg : g < t_g T) (hs : s < 2) (h : m_fst (pComes T S g s) k = none) (c : h_d (m_days T S k) < 400) : h_c S (2 * g + s) < h_c (m_days T S (k + 1)) (2 * g + s) ↔ pComes T S g s k = true := by
  have a := hI.cb (2 * g + s) (by omega)
  have d := hI.db
  have f := fr_b hT (INV_days hT hg6 hI k).sb (g := g) (by omega)
  have f2 := fr_r hT (INV_days hT hg6 hI k).sb (g := g) (by omega)
  rw [m_days_s c, c_day hg hs, c_days hT hg6 hI hg hs h]
  unfold pComes
  rw [decide_eq_true c, Bool.true_and]
  by_cases q : m_from (m_days T S k) = s
  · rw [if_pos q, decide_eq_true q, Int32.lt_iff_toInt_lt]
    exact ⟨fun z => absurd z (by omega), fun z => by cases z⟩
  · rw [if_neg q, decide_eq_false q, Int32.lt_iff_toInt_lt, i_addI (by omega) (by omega), Bool.not_false, Bool.true_and, Bool.not_eq_true', decide_eq_false_iff_not, Int32.le_iff_toInt_le, i_0]
    omega
theorem aDay_n {T : St} {S : Sh} {q : Option Nat} (hI : ∀ k, h_d (m_days T S k) ≤ 400) (h : aDay T S q < 0) : q = none := by
  cases q with
  | none => rfl
  | some k =>
    have e : aDay T S (some k) = Int32.ofNat (h_d (m_days T S k)) := rfl
    have b := hI k
    rw [e, Int32.lt_iff_toInt_lt, i_toInt (by omega), i_0] at h
    omega
theorem aDay_s {T : St} {S : Sh} {P : Nat → Bool} {k n : Nat} (hk : k ≤ n) (h : ¬ aDay T S (m_fst P k) < 0) : aDay T S (m_fst P n) = aDay T S (m_fst P k) := by
  cases e : m_fst P k with
  | none =>
    rw [e] at h
    exact absurd (show (-1 : Int32) < 0 by decide) h
  | some i =>
    have : ∀ j, m_fst P (k + j) = some i := fun j => by
      induction j with
      | zero => exact e
      | succ j ih =>
        show m_fst P (k + j + 1) = some i
        unfold m_fst
        rw [ih]
    have t := this (n - k)
    rw [show k + (n - k) = n by omega] at t
    rw [t]
/-! what is alive when a MAN dies; bits of the dead -/
theorem alive_do3 {S : Sh} {k j : Nat} {n : Int32} : m_alive (m_do 3 S k n) j = (m_alive S j && !decide (k = j)) := by
  show (!decide (up1 (h_a S) k (-1) j = -1)) = _
  by_cases e : j = k
  · rw [e, up1_eq]
    simp
  · rw [up1_ne e]
    unfold m_alive
    rw [decide_eq_false (fun q : k = j => e q.symm)]
    simp
theorem xbit_or {b : Int32} {m j : Nat} (hm : m < 32) (hj : j < 32) : xbit (b ||| 1 <<< (Int32.ofNat m &&& 31)) j = (xbit b j || decide (m = j)) := by
  rw [xbit_bt hj, xbit_bt hj, bt_or, bt_sh hm]
