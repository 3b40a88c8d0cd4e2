/-! ===== without: the class's way and the reference's come to the same ===== -/
theorem i_acs (a b c : Int32) : a + b - c = a - c + b := by
  rw [Int32.sub_eq_add_neg, Int32.sub_eq_add_neg, Int32.add_assoc, Int32.add_comm b, ← Int32.add_assoc]
theorem mxI (a b : Int32) : (ab_max a b).toInt = max a.toInt b.toInt := by
  rcases mx_c a b with ⟨h, e⟩ | ⟨h, e⟩ <;> rw [e] <;> omega
theorem mnI (a b : Int32) : (ab_min a b).toInt = min a.toInt b.toInt := by
  rcases mn_c a b with ⟨h, e⟩ | ⟨h, e⟩ <;> rw [e] <;> omega
theorem mvI (s l r : Int32) : (m_moved s l r).toInt = max 0 (min s.toInt (min l.toInt r.toInt)) := by
  unfold m_moved
  rw [mxI, mnI, mnI, i_0]
theorem moved_lk {s l r : Int32} (hs : 0 ≤ s.toInt) (hr : 0 ≤ r.toInt) : m_moved s (ab_max 0 l) r = m_moved s l r := Int32.toInt_inj.mp (by
  rw [mvI, mvI, mxI, i_0]
  omega)
/-- the same DAY and MEN, the same stocks of the GOODS before g -/
def WQ (g : Nat) (S X : Sh) : Prop := h_d X = h_d S ∧ h_a X = h_a S ∧ h_p X = h_p S ∧ ∀ j, j < 2 * g → h_s X j = h_s S j
section WQS
variable {T : St} {g : Nat} {S X : Sh}
theorem felt_wq (h : WQ g S X) : m_felt T X = m_felt T S := funext fun k => by
  unfold m_felt m_alive m_apart
  rw [h.2.1, h.2.2.1]
theorem from_wq (h : WQ g S X) : m_from X = m_from S := by
  unfold m_from
  rw [h.1]
theorem room_wq (h : WQ g S X) : m_room T X = m_room T S := by
  unfold m_room
  rw [h.1]
theorem missed_wq (h : WQ g S X) : m_missed T X = m_missed T S := by
  unfold m_missed
  rw [felt_wq h]
theorem pm_wq (h : WQ g S X) : ∀ k, m_pm T X k = m_pm T S k
  | 0 => rfl
  | k + 1 => by
    have ih := pm_wq h k
    show (if ¬ m_room T X - (m_pm T X k).2 < 2 ∧ h_a X k = Int32.ofNat (m_from X) ∧ m_bit (m_missed T X) k = true then ((m_pm T X k).1 ||| 1 <<< (Int32.ofNat k &&& 31), (m_pm T X k).2 + 2) else m_pm T X k) = (if ¬ m_room T S - (m_pm T S k).2 < 2 ∧ h_a S k = Int32.ofNat (m_from S) ∧ m_bit (m_missed T S) k = true then ((m_pm T S k).1 ||| 1 <<< (Int32.ofNat k &&& 31), (m_pm T S k).2 + 2) else m_pm T S k)
    rw [ih, room_wq h, from_wq h, missed_wq h, h.2.1]
theorem pg_wq (h : WQ g S X) : ∀ q, q ≤ g → m_pg T X q = m_pg T S q
  | 0, _ => by
    show (m_pm T X (t_m T)).2 = (m_pm T S (t_m T)).2
    rw [pm_wq h]
  | q + 1, hq => by
    have ih := pg_wq h q (by omega)
    have b6 := m_from_lt S
    show m_pg T X q + m_moved (h_s X (2 * q + m_from X)) (m_lack T X (2 * q + (1 - m_from X))) (m_room T X - m_pg T X q) = m_pg T S q + m_moved (h_s S (2 * q + m_from S)) (m_lack T S (2 * q + (1 - m_from S))) (m_room T S - m_pg T S q)
    unfold m_lack
    rw [ih, room_wq h, from_wq h, h.2.2.2 (2 * q + m_from S) (by omega), h.2.2.2 (2 * q + (1 - m_from S)) (by omega)]
theorem fr_wq (h : WQ g S X) {q : Nat} (hq : q < g) : m_fr T X q = m_fr T S q := by
  have b6 := m_from_lt S
  unfold m_fr m_lack
  rw [pg_wq h q (by omega), room_wq h, from_wq h, h.2.2.2 (2 * q + m_from S) (by omega), h.2.2.2 (2 * q + (1 - m_from S)) (by omega)]
theorem cS_wq (h : WQ g S X) {j : Nat} (hj : j < 2 * g) : m_cS T X (t_g T) j = m_cS T S (t_g T) j := by
  have b6 := m_from_lt S
  by_cases c : 2 * t_g T ≤ j
  · rw [cS_ge c, cS_ge c]
    exact h.2.2.2 j hj
  · have x1 := cS_1 (T := T) (S := X) (k := j / 2) (g := t_g T) (by omega)
    have x2 := cS_2 (T := T) (S := X) (k := j / 2) (g := t_g T) (by omega)
    have y1 := cS_1 (T := T) (S := S) (k := j / 2) (g := t_g T) (by omega)
    have y2 := cS_2 (T := T) (S := S) (k := j / 2) (g := t_g T) (by omega)
    rw [from_wq h, fr_wq h (by omega)] at x1 x2
    by_cases d : j = 2 * (j / 2) + m_from S
    · rw [← d] at x1 y1
      rw [x1, y1, h.2.2.2 j hj]
    · have e : 2 * (j / 2) + (1 - m_from S) = j := by omega
      rw [e] at x2 y2
      rw [x2, y2, h.2.2.2 j hj]
theorem cA_wq (h : WQ g S X) : ∀ k, m_cA T X k = m_cA T S k
  | 0 => h.2.1
  | k + 1 => by
    have ih := cA_wq h k
    have eb : m_board T X = m_board T S := by
      unfold m_board
      rw [pm_wq h]
    show (if m_bit (m_board T X) k = true then up1 (m_cA T X k) k (Int32.ofNat (1 - m_from X)) else m_cA T X k) = (if m_bit (m_board T S) k = true then up1 (m_cA T S k) k (Int32.ofNat (1 - m_from S)) else m_cA T S k)
    rw [ih, eb, from_wq h]
end WQS
theorem cI_wq {A B : Sh} (ha : h_a A = h_a B) {f : Nat → Int32} {m : Nat} : ∀ o, m_cI A f m o = m_cI B f m o
  | 0 => rfl
  | o + 1 => by
    have ih := cI_wq ha (f := f) (m := m) o
    show up1 (m_cI A f m o) (m * 8 + o) (if h_a A m = h_a A o then 0 else m_cI A f m o (m * 8 + o) + 1) = up1 (m_cI B f m o) (m * 8 + o) (if h_a B m = h_a B o then 0 else m_cI B f m o (m * 8 + o) + 1)
    rw [ih, ha]
theorem cP_eq {A B : Sh} (ha : h_a A = h_a B) (hp : h_p A = h_p B) : ∀ m, m_cP A m = m_cP B m
  | 0 => hp
  | m + 1 => by
    have ih := cP_eq ha hp m
    show m_cI A (m_cP A m) m m = m_cI B (m_cP B m) m m
    rw [ih, cI_wq ha]
theorem day_wq {T : St} {g : Nat} {S X : Sh} (h : WQ g S X) : WQ g (m_day T S) (m_day T X) := by
  refine ⟨?_, ?_, ?_, fun j hj => ?_⟩
  · show h_d X + 1 = h_d S + 1
    rw [h.1]
  · exact cA_wq h _
  · refine cP_eq (A := m_eat T (m_carry T X)) (B := m_eat T (m_carry T S)) ?_ ?_ _
    · exact cA_wq h _
    · exact h.2.2.1
  · show m_eS T (m_carry T X) (2 * t_g T) j = m_eS T (m_carry T S) (2 * t_g T) j
    have e : h_s (m_carry T X) j = h_s (m_carry T S) j := cS_wq h hj
    by_cases c : 2 * t_g T ≤ j
    · rw [eS_ge c, eS_ge c, e]
    · rw [eS_lt (by omega), eS_lt (by omega), e]
theorem w_rm_b {T : St} {S : Sh} {g : Nat} (hT : TBB T) (hS : SB S) (hg6 : t_g T ≤ 6) (hg : g < t_g T) (k : Nat) : 0 ≤ (w_rm T S g k).toInt ∧ (w_rm T S g k).toInt ≤ 40 := by
  have b := SB_days hT hS hg6 k
  have r := room_b (S := m_days T S k) hT
  have p := pg_b hT b g (by omega)
  unfold w_rm
  rw [i_subI (by omega) (by omega)]
  omega
theorem ws_days {T : St} {S : Sh} {g s v : Nat} (hT : TBB T) (hI : INV T S) (hg6 : t_g T ≤ 6) (hg : g < t_g T) (hs : s < 2) (hv : (v : Int) ≤ (h_s S (2 * g + s)).toInt) : ∀ k, h_d S + k ≤ 400 → h_d (m_days T S k) = h_d S + k ∧ WQ g (m_days T S k) (m_days T (m_ws S (2 * g + s) v) k) ∧
    h_s (m_days T (m_ws S (2 * g + s) v) k) (2 * g + s) = (w_s T S g s v k).1 ∧ h_s (m_days T (m_ws S (2 * g + s) v) k) (2 * g + (1 - s)) = (w_s T S g s v k).2.1 ∧ h_c (m_days T (m_ws S (2 * g + s) v) k) (2 * g + s) - h_c S (2 * g + s) = (w_s T S g s v k).2.2
  | 0, _ => by
    refine ⟨rfl, ⟨rfl, rfl, rfl, fun j hj => up1_ne (by omega)⟩, up1_eq, up1_ne (by omega), ?_⟩
    show h_c S (2 * g + s) - h_c S (2 * g + s) = 0
    rw [Int32.sub_eq_add_neg, Int32.add_right_neg]
  | k + 1, hk => by
    obtain ⟨d1, wq, a1, a2, a3⟩ := ws_days hT hI hg6 hg hs hv k (by omega)
    have hX := INV_days hT hg6 (INV_ws (k := 2 * g + s) (v := v) hI (by omega) hv) k
    have hY := SB_days hT hI.sb hg6 k
    rw [m_days_s (show h_d (m_days T S k) < 400 by omega), m_days_s (show h_d (m_days T (m_ws S (2 * g + s) v) k) < 400 by rw [wq.1]; omega)]
    obtain ⟨X, eX⟩ : ∃ X, X = m_days T (m_ws S (2 * g + s) v) k := ⟨_, rfl⟩
    obtain ⟨Y, eY⟩ : ∃ Y, Y = m_days T S k := ⟨_, rfl⟩
    have er : m_room T X - m_pg T X g = w_rm T S g k := by
      rw [eX, room_wq wq, pg_wq wq g (Nat.le_refl _)]
      rfl
    have rb := w_rm_b hT hI.sb hg6 hg k
    have ef : m_from X = (h_d S + k) % 2 := by
      rw [eX, from_wq wq]
      unfold m_from
      rw [d1]
    rw [← eX] at a1 a2 a3 wq hX ⊢
    rw [← eY] at d1 wq ⊢
    have f1 := cS_1 (T := T) (S := X) (k := g) (g := t_g T) hg
    have f2 := cS_2 (T := T) (S := X) (k := g) (g := t_g T) hg
    have f3 := cC_1 (T := T) (S := X) (k := g) (g := t_g T) hg
    have f4 := cC_2 (T := T) (S := X) (k := g) (g := t_g T)
    have sx := hX.sb (2 * g + m_from X) (by have := m_from_lt X; omega)
    have fr : m_fr T X g = m_moved (h_s X (2 * g + m_from X)) (t_a T (1 * 12 + (2 * g + (1 - m_from X))) - h_s X (2 * g + (1 - m_from X))) (w_rm T S g k) := by
      unfold m_fr m_lack
      rw [er, moved_lk sx.1 rb.1]
    have q1 : h_s (m_day T X) (2 * g + s) = ab_max 0 (m_left T (2 * g + s) (m_cS T X (t_g T) (2 * g + s))) := eS_lt (S := m_carry T X) (k := 2 * t_g T) (j := 2 * g + s) (by omega)
    have q2 : h_s (m_day T X) (2 * g + (1 - s)) = ab_max 0 (m_left T (2 * g + (1 - s)) (m_cS T X (t_g T) (2 * g + (1 - s)))) := eS_lt (S := m_carry T X) (k := 2 * t_g T) (j := 2 * g + (1 - s)) (by omega)
    have q3 : h_c (m_day T X) (2 * g + s) = m_cC T X (t_g T) (2 * g + s) := rfl
    refine ⟨(show h_d Y + 1 = h_d S + (k + 1) by omega), day_wq wq, ?_⟩
    rw [q1, q2, q3]
    by_cases c : (h_d S + k) % 2 = s
    · rw [w_s_t c]
      rw [ef, c] at f1 f2 f3 f4 fr
      rw [f1, f2, f4, fr, a1, a2]
      exact ⟨rfl, rfl, a3⟩
    · rw [w_s_f c]
      have c1 : m_from X = 1 - s := by omega
      rw [c1] at f1 f2 f3 fr
      rw [show 1 - (1 - s) = s by omega] at f2 f3 fr
      rw [f1, f2, f3, fr, a1, a2]
      exact ⟨rfl, rfl, (i_acs _ _ _).trans (congrArg (fun q => q + _) a3)⟩
theorem w_cm {T : St} {S : Sh} {g s v : Nat} (hT : TBB T) (hS : SB S) (hg6 : t_g T ≤ 6) (hg : g < t_g T) : ∀ k, k ≤ 60 → 0 ≤ (w_s T S g s v k).2.2.toInt ∧ (w_s T S g s v k).2.2.toInt ≤ (w_rt T S g s k).toInt ∧ (w_rt T S g s k).toInt ≤ 40 * (k : Int)
  | 0, _ => ⟨by show 0 ≤ (0 : Int32).toInt; decide, by show (0 : Int32).toInt ≤ (0 : Int32).toInt; decide, by show (0 : Int32).toInt ≤ 40 * ((0 : Nat) : Int); decide⟩
  | k + 1, hk => by
    have ih := w_cm hT hS hg6 hg (v := v) (s := s) k (by omega)
    have rb := w_rm_b hT hS hg6 hg k
    by_cases c : (h_d S + k) % 2 = s
    · rw [w_s_t c, show w_rt T S g s (k + 1) = w_rt T S g s k from if_pos c]
      refine ⟨ih.1, ih.2.1, ?_⟩
      omega
    · rw [w_s_f c, show w_rt T S g s (k + 1) = w_rt T S g s k + w_rm T S g k from if_neg c]
      have m := mvI (w_s T S g s v k).2.1 (t_a T (1 * 12 + (2 * g + s)) - (w_s T S g s v k).1) (w_rm T S g k)
      obtain ⟨z, hz⟩ : ∃ z, z = m_moved (w_s T S g s v k).2.1 (t_a T (1 * 12 + (2 * g + s)) - (w_s T S g s v k).1) (w_rm T S g k) := ⟨_, rfl⟩
      rw [← hz] at m
      show 0 ≤ ((w_s T S g s v k).2.2 + m_moved (w_s T S g s v k).2.1 (t_a T (1 * 12 + (2 * g + s)) - (w_s T S g s v k).1) (w_rm T S g k)).toInt ∧ ((w_s T S g s v k).2.2 + m_moved (w_s T S g s v k).2.1 (t_a T (1 * 12 + (2 * g + s)) - (w_s T S g s v k).1) (w_rm T S g k)).toInt ≤ (w_rt T S g s k + w_rm T S g k).toInt ∧ (w_rt T S g s k + w_rm T S g k).toInt ≤ 40 * ((k + 1 : Nat) : Int)
      rw [← hz]
      have z0 : 0 ≤ z.toInt ∧ z.toInt ≤ (w_rm T S g k).toInt := by omega
      rw [i_addI (by omega) (by omega), i_addI (by omega) (by omega)]
      omega
theorem m_fst_c {P Q : Nat → Bool} : ∀ {n : Nat}, (∀ j, j < n → P j = Q j) → m_fst P n = m_fst Q n
  | 0, _ => rfl
  | n + 1, h => by
    have ih := m_fst_c (n := n) fun j hj => h j (by omega)
    unfold m_fst
    rw [ih, h n (Nat.lt_succ_self _)]
theorem m_fst_zz {P : Nat → Bool} : ∀ {n : Nat}, (∀ j, j < n → P j = false) → m_fst P n = none
  | 0, _ => rfl
  | n + 1, h => m_fst_n (m_fst_zz fun j hj => h j (by omega)) (h n (Nat.lt_succ_self _))
theorem w_dn_b {S : Sh} {d : Nat} (h : h_d S ≤ 400) : w_dn S d ≤ d ∧ h_d S + w_dn S d ≤ 400 ∧ (w_dn S d = d ∨ h_d S + w_dn S d = 400) := by
  unfold w_dn
  split <;> omega
theorem pW_eq {T : St} {S : Sh} {g s n d v : Nat} (hT : TBB T) (hI : INV T S) (hg6 : t_g T ≤ 6) (hg : g < t_g T) (hs : s < 2) (hv : (v : Int) ≤ (h_s S (2 * g + s)).toInt) : pWc T S g s n d v = pWo T S g s n d v := by
  obtain ⟨b1, b2, b3⟩ := w_dn_b (d := d) hI.db
  obtain ⟨d1, wq, -, -, a3⟩ := ws_days hT hI hg6 hg hs hv (w_dn S d) b2
  have e : m_days T (m_ws S (2 * g + s) v) d = m_days T (m_ws S (2 * g + s) v) (w_dn S d) := by
    rcases b3 with b3 | b3
    · rw [b3]
    · exact m_days_e b1 (by rw [wq.1]; omega)
  unfold pWc pWo
  rw [e, a3]
theorem wo_eq {T : St} {S : Sh} (hT : TBB T) (hI : INV T S) (hg6 : t_g T ≤ 6) (x y z w : Int32) : c_without T S x y z w = a_without T S x y z w := by
  unfold c_without a_without aGS
  cases hx : nd (t_g T) x with
  | none => rfl
  | some g =>
    cases hy : nd 2 y with
    | none => rfl
    | some s =>
      cases hz : ndr 1 250 z with
      | none => rfl
      | some n =>
        cases hw : ndr 1 60 w with
        | none => rfl
        | some d =>
          have hg := (nd_some hx).1
          have hs := (nd_some hy).1
          have hn := ndr_some hz
          have hd := ndr_some hw
          have sk := hI.sb (2 * g + s) (by omega)
          show (if w_rt T S g s (w_dn S d) < Int32.ofNat n then -1 else oN (m_fst (pWc T S g s n d) ((h_s S (2 * g + s)).toInt.toNat + 1))) = oN (m_fst (pWo T S g s n d) ((h_s S (2 * g + s)).toInt.toNat + 1))
          have ec : m_fst (pWc T S g s n d) ((h_s S (2 * g + s)).toInt.toNat + 1) = m_fst (pWo T S g s n d) ((h_s S (2 * g + s)).toInt.toNat + 1) := m_fst_c fun v hv => pW_eq hT hI hg6 hg hs (by omega)
          rw [ec]
          by_cases c : w_rt T S g s (w_dn S d) < Int32.ofNat n
          · have z : m_fst (pWo T S g s n d) ((h_s S (2 * g + s)).toInt.toNat + 1) = none := m_fst_zz fun v hv => by
              rw [← pW_eq hT hI hg6 hg hs (by omega)]
              have b := w_dn_b (d := d) hI.db
              have m := w_cm hT hI.sb hg6 hg (v := v) (s := s) (w_dn S d) (by omega)
              rw [Int32.lt_iff_toInt_lt] at c
              unfold pWc
              rw [decide_eq_true (show (w_s T S g s v (w_dn S d)).2.2 < Int32.ofNat n by rw [Int32.lt_iff_toInt_lt]; omega)]
              rfl
            rw [if_pos c, z]
            rfl
          · rw [if_neg c]
theorem d_withoutA {F : FW} {D : DD} (h : CR F D) (k : DOK D) (x y z w : Int32) : Pm Z_X10_without [.ref 0, .int x, .int y, .int z, .int w] F (fun r F' => r = some (.int (a_without (dT D) (dS D) x y z w)) ∧ CR F' D ∧ KX F F') := by
  obtain ⟨t, ht, hT, j0, -⟩ := h.t
  have p := d_without h k x y z w
  rw [wo_eq k.1 k.2.1 hT.gb] at p
  exact p
