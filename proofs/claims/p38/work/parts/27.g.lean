-- 63.b70.wo.lean.txt
section
/-! ===== WITHOUT ===== -/
def oN (q : Option Nat) : Int32 := match q with
  | none => -1
  | some k => Int32.ofNat k
theorem m_fst_lt {P : Nat → Bool} {j : Nat} : ∀ {n : Nat}, m_fst P n = some j → j < n ∧ P j = true
  | 0, h => by cases h
  | n + 1, h => by
    unfold m_fst at h
    split at h
    · rename_i i hi
      obtain rfl := Option.some.inj h
      have := m_fst_lt hi
      exact ⟨by omega, this.2⟩
    · split at h
      · rename_i c
        obtain rfl := Option.some.inj h
        exact ⟨Nat.lt_succ_self _, c⟩
      · cases h
theorem oN_n {P : Nat → Bool} {v : Nat} (hv : v < 2147483648) (h : oN (m_fst P v) < 0) : m_fst P v = none := by
  cases e : m_fst P v with
  | none => rfl
  | some j =>
    have b := (m_fst_lt e).1
    rw [e] at h
    have e1 : oN (some j) = Int32.ofNat j := rfl
    rw [e1, Int32.lt_iff_toInt_lt, i_toInt (by omega), i_0] at h
    omega
theorem m_fst_up {P : Nat → Bool} {k i : Nat} (e : m_fst P k = some i) : ∀ j, m_fst P (k + j) = some i
  | 0 => e
  | j + 1 => by
    have ih := m_fst_up e j
    show m_fst P (k + j + 1) = some i
    unfold m_fst
    rw [ih]
theorem oN_s {P : Nat → Bool} {k n : Nat} (hk : k ≤ n) (h : ¬ oN (m_fst P k) < 0) : oN (m_fst P n) = oN (m_fst P k) := by
  cases e : m_fst P k with
  | none =>
    rw [e] at h
    exact absurd (show (-1 : Int32) < 0 by decide) h
  | some i =>
    have t := m_fst_up e (n - k)
    rw [show k + (n - k) = n by omega] at t
    rw [t]
theorem nat_of {x : Int32} (h : 0 ≤ x.toInt) : ∃ n, x.toInt.toNat = n ∧ x = Int32.ofNat n ∧ n < 2147483648 := by
  have := Int32.toInt_lt x
  refine ⟨_, rfl, Int32.toInt_inj.mp ?_, by omega⟩
  rw [i_toInt (by omega)]
  omega
/-- so much wasted now -/
def m_ws (S : Sh) (k v : Nat) : Sh := (up1 (h_s S) k (h_s S k - Int32.ofNat v), S.2)
theorem INV_ws {T : St} {S : Sh} {k v : Nat} (h : INV T S) (hk : k < 12) (hv : (v : Int) ≤ (h_s S k).toInt) : INV T (m_ws S k v) := by
  have sk := h.sb k hk
  have en : (Int32.ofNat v).toInt = v := i_toInt (by omega)
  have e1 : (h_s S k - Int32.ofNat v).toInt = (h_s S k).toInt - v := by rw [i_subI (by omega) (by omega), en]
  refine ⟨fun j hj => ?_, fun j hj => ?_, h.ab, h.tr, h.cb, h.db⟩
  · show 0 ≤ (up1 (h_s S) k (h_s S k - Int32.ofNat v) j).toInt ∧ (up1 (h_s S) k (h_s S k - Int32.ofNat v) j).toInt ≤ 999
    by_cases e : j = k
    · rw [e, up1_eq, e1]
      omega
    · rw [up1_ne e]
      exact h.sb j hj
  · show 0 ≤ (h_h S j).toInt ∧ (up1 (h_s S) k (h_s S k - Int32.ofNat v) j).toInt + (h_h S j).toInt ≤ 250 + 290 * (h_d S : Int)
    have uj := h.hb j hj
    by_cases e : j = k
    · rw [e, up1_eq, e1]
      rw [e] at uj
      omega
    · rw [up1_ne e]
      exact uj
def pWo (T : St) (S : Sh) (g s n d v : Nat) : Bool := !decide (h_c (m_days T (m_ws S (2 * g + s) v) d) (2 * g + s) - h_c S (2 * g + s) < Int32.ofNat n)
def a_without (T : St) (S : Sh) (x y z w : Int32) : Int32 := aGS T x y fun g s => match ndr 1 250 z with
  | none => -1
  | some n => match ndr 1 60 w with
    | none => -1
    | some d => oN (m_fst (pWo T S g s n d) ((h_s S (2 * g + s)).toInt.toNat + 1))
/-! the class's way: the room that there will be, the two stocks day by day -/
def w_dn (S : Sh) (d : Nat) : Nat := if d ≤ 400 - h_d S then d else 400 - h_d S
def w_rm (T : St) (S : Sh) (g k : Nat) : Int32 := m_room T (m_days T S k) - m_pg T (m_days T S k) g
def w_rt (T : St) (S : Sh) (g s : Nat) : Nat → Int32
  | 0 => 0
  | k + 1 => if (h_d S + k) % 2 = s then w_rt T S g s k else w_rt T S g s k + w_rm T S g k
def w_s (T : St) (S : Sh) (g s w : Nat) : Nat → Int32 × Int32 × Int32
  | 0 => (h_s S (2 * g + s) - Int32.ofNat w, h_s S (2 * g + (1 - s)), 0)
  | k + 1 => if (h_d S + k) % 2 = s then
      (ab_max 0 (m_left T (2 * g + s) ((w_s T S g s w k).1 - m_moved (w_s T S g s w k).1 (t_a T (1 * 12 + (2 * g + (1 - s))) - (w_s T S g s w k).2.1) (w_rm T S g k))),
       ab_max 0 (m_left T (2 * g + (1 - s)) ((w_s T S g s w k).2.1 + m_moved (w_s T S g s w k).1 (t_a T (1 * 12 + (2 * g + (1 - s))) - (w_s T S g s w k).2.1) (w_rm T S g k))), (w_s T S g s w k).2.2)
    else
      (ab_max 0 (m_left T (2 * g + s) ((w_s T S g s w k).1 + m_moved (w_s T S g s w k).2.1 (t_a T (1 * 12 + (2 * g + s)) - (w_s T S g s w k).1) (w_rm T S g k))),
       ab_max 0 (m_left T (2 * g + (1 - s)) ((w_s T S g s w k).2.1 - m_moved (w_s T S g s w k).2.1 (t_a T (1 * 12 + (2 * g + s)) - (w_s T S g s w k).1) (w_rm T S g k))), (w_s T S g s w k).2.2 + m_moved (w_s T S g s w k).2.1 (t_a T (1 * 12 + (2 * g + s)) - (w_s T S g s w k).1) (w_rm T S g k))
theorem w_s_t {T : St} {S : Sh} {g s w k : Nat} (c : (h_d S + k) % 2 = s) : w_s T S g s w (k + 1) = (ab_max 0 (m_left T (2 * g + s) ((w_s T S g s w k).1 - m_moved (w_s T S g s w k).1 (t_a T (1 * 12 + (2 * g + (1 - s))) - (w_s T S g s w k).2.1) (w_rm T S g k))),
       ab_max 0 (m_left T (2 * g + (1 - s)) ((w_s T S g s w k).2.1 + m_moved (w_s T S g s w k).1 (t_a T (1 * 12 + (2 * g + (1 - s))) - (w_s T S g s w k).2.1) (w_rm T S g k))), (w_s T S g s w k).2.2) := if_pos c
theorem w_s_f {T : St} {S : Sh} {g s w k : Nat} (c : ¬ (h_d S + k) % 2 = s) : w_s T S g s w (k + 1) = (ab_max 0 (m_left T (2 * g + s) ((w_s T S g s w k).1 + m_moved (w_s T S g s w k).2.1 (t_a T (1 * 12 + (2 * g + s)) - (w_s T S g s w k).1) (w_rm T S g k))),
       ab_max 0 (m_left T (2 * g + (1 - s)) ((w_s T S g s w k).2.1 - m_moved (w_s T S g s w k).2.1 (t_a T (1 * 12 + (2 * g + s)) - (w_s T S g s w k).1) (w_rm T S g k))), (w_s T S g s w k).2.2 + m_moved (w_s T S g s w k).2.1 (t_a T (1 * 12 + (2 * g + s)) - (w_s T S g s w k).1) (w_rm T S g k)) := if_neg c
def pWc (T : St) (S : Sh) (g s n d v : Nat) : Bool := !decide ((w_s T S g s v (w_dn S d)).2.2 < Int32.ofNat n)
def c_without (T : St) (S : Sh) (x y z w : Int32) : Int32 := aGS T x y fun g s => match ndr 1 250 z with
  | none => -1
  | some n => match ndr 1 60 w with
    | none => -1
    | some d => if w_rt T S g s (w_dn S d) < Int32.ofNat n then -1 else oN (m_fst (pWc T S g s n d) ((h_s S (2 * g + s)).toInt.toNat + 1))
end
-- 63.b70a.lean.txt
section
set_option maxRecDepth 100000 in
set_option maxHeartbeats 4000000 in
theorem o_foreseeRoom {F : FW} {t : Nat} {T : St} {S : Sh} (hG : GW F) (ht : F.2.1 0 13 = .ref t) (hT : TR F t T) (hS : SHR F 12 (t_m T) S) (j0 : t = 45 ∨ t = 53) {g d : Nat} (hg : g < t_g T) (hd1 : 1 ≤ d) (hd : d ≤ 60) : Pm Z_X10_foreseeRoom [.ref 0, .int (Int32.ofNat g), .int (Int32.ofNat d)] F (fun r F' => r = some (.int (Int32.ofNat (w_dn S d))) ∧ CDR F F' ∧ AR F' 43 (w_dn S d) (w_rm T S g)) := by
  refine Pm.of fun N => ?_
  obtain ⟨Q, hQ⟩ : ∃ Q : Option Value → FW → Prop, Q = (fun r F' => r = some (.int (Int32.ofNat (w_dn S d))) ∧ CDR F F' ∧ AR F' 43 (w_dn S d) (w_rm T S g)) := ⟨_, rfl⟩
  rw [← hQ]
  have b3 := hT.mb
  have b4 := hT.nb
  have b5 := hT.gb
  have b6 := m_from_lt S
  have b7 := hS.db
  refine (show Pv (ab_T (L_X10_foreseeRoom Z_X6_copyFrom Z_X1_passDays)) N 0 [some (.ref 0), some (.int (Int32.ofNat g)), some (.int (Int32.ofNat d)), none, none] [] F Q from ?_)
  refine Pv.aload rfl rfl ?_
  refine Pv.getR (v := .ref 20) rfl rfl (GW.at (a := 0) (k := 5) (b := 20) hG (by decide)) ?_
  refine Pv.aload rfl rfl ?_
  refine Pv.getR (v := .ref 12) rfl rfl (GW.at (a := 0) (k := 4) (b := 12) hG (by decide)) ?_
  refine Pv.callV (as := [.ref 20, .ref 12]) (rest := []) rfl rfl rfl (f_shCopy (GW.o20 hG) hS b3 (by omega)) ?_
  rintro _ G1 ⟨rfl, x2, sr4⟩
  have hx3 := FX.tr (P := fun q => (7 ≤ q ∧ q ≤ 9) ∨ (20 ≤ q ∧ q ≤ 35) ∨ q = 40 ∨ q = 43) FX.rf (x2.wd (fun q (c : 20 ≤ q ∧ q ≤ 20 + 7) => (show (7 ≤ q ∧ q ≤ 9) ∨ (20 ≤ q ∧ q ≤ 35) ∨ q = 40 ∨ q = 43 by omega)))
  have hx5 := hT.fx (P := fun q => 20 ≤ q ∧ q ≤ 20 + 7) x2 (fun q h1 h2 (c : 20 ≤ q ∧ q ≤ 20 + 7) => by omega)
  have hx6 := hS.fx (P := fun q => 20 ≤ q ∧ q ≤ 20 + 7) x2 (fun q h1 h2 (c : 20 ≤ q ∧ q ≤ 20 + 7) => by omega)
  have hx7 := hG.fx (P := fun q => 20 ≤ q ∧ q ≤ 20 + 7) x2
  have hr8 : G1.2.1 0 13 = .ref t := by rw [x2.2.2.1]; exact ht
  refine (show Pv _ _ 11 [some (.ref 0), some (.int (Int32.ofNat g)), some (.int (Int32.ofNat d)), none, none] [] G1 Q from ?_)
  refine Pv.lit rfl ?_
  refine Pv.istore (lo' := [some (.ref 0), some (.int (Int32.ofNat g)), some (.int (Int32.ofNat d)), some (.int 0), none]) rfl rfl ?_
  refine Pv.lit rfl ?_
  refine Pv.istore (lo' := [some (.ref 0), some (.int (Int32.ofNat g)), some (.int (Int32.ofNat d)), some (.int 0), some (.int 0)]) rfl rfl ?_
  refine Pv.lp (ι := Nat × Nat × FW) (lof := fun ⟨k, e, G⟩ => [some (.ref 0), some (.int (Int32.ofNat g)), some (.int (Int32.ofNat d)), some (.int (Int32.ofNat e)), some (.int (Int32.ofNat k))]) (Ff := fun ⟨k, e, G⟩ => G) (P := fun ⟨k, e, G⟩ => FX (fun q => (7 ≤ q ∧ q ≤ 9) ∨ (20 ≤ q ∧ q ≤ 35) ∨ q = 40 ∨ q = 43) F G ∧ (k ≤ d ∧ e = k) ∧ (SHR G 20 (t_m T) (m_days T S k)) ∧ (h_d (m_days T S k) = h_d S + k) ∧ (AR G 43 k (w_rm T S g))) ?_ (0, 0, G1) (⟨hx3, ⟨Nat.zero_le _, rfl⟩, sr4, rfl, AR.z⟩)
  rintro N9 hN10 ⟨k, e, G⟩ hi11 ih12
  refine (show Pv _ _ 16 [some (.ref 0), some (.int (Int32.ofNat g)), some (.int (Int32.ofNat d)), some (.int (Int32.ofNat e)), some (.int (Int32.ofNat k))] [] G Q from ?_)
  obtain ⟨hxG, hke, hA, hkd, h43⟩ := hi11
  have hx13 := hT.fx (P := fun q => (7 ≤ q ∧ q ≤ 9) ∨ (20 ≤ q ∧ q ≤ 35) ∨ q = 40 ∨ q = 43) hxG (fun q h1 h2 (c : (7 ≤ q ∧ q ≤ 9) ∨ (20 ≤ q ∧ q ≤ 35) ∨ q = 40 ∨ q = 43) => by omega)
  have hx14 := hS.fx (P := fun q => (7 ≤ q ∧ q ≤ 9) ∨ (20 ≤ q ∧ q ≤ 35) ∨ q = 40 ∨ q = 43) hxG (fun q h1 h2 (c : (7 ≤ q ∧ q ≤ 9) ∨ (20 ≤ q ∧ q ≤ 35) ∨ q = 40 ∨ q = 43) => by omega)
  have hx15 := hG.fx (P := fun q => (7 ≤ q ∧ q ≤ 9) ∨ (20 ≤ q ∧ q ≤ 35) ∨ q = 40 ∨ q = 43) hxG
  have hx16 : G.2.1 0 13 = .ref t := by rw [hxG.2.2.1]; exact ht
  have bD := hA.db
  refine Pv.iloadS rfl rfl ?_
  refine Pv.iload rfl rfl ?_
  refine Pv.icmp rfl (fun c17 => ?_) (fun c17 => ?_)
  · skip
    replace c17 := (i_le (a := d) (b := k) (by omega) (by omega)).mp (of_decide_eq_true c17)
    refine Pv.iload rfl rfl ?_
    exact Pv.ret rfl (by rw [hQ]; exact ⟨congrArg (fun z => some (Value.int (Int32.ofNat z))) (show e = w_dn S d from (by unfold w_dn; split <;> omega)), hxG, h43.le (by unfold w_dn; split <;> omega)⟩)
  · skip
    replace c17 := mt (i_le (a := d) (b := k) (by omega) (by omega)).mpr (of_decide_eq_false c17)
    refine Pv.iload rfl rfl ?_
    refine Pv.lit rfl ?_
    refine Pv.icmp rfl (fun c18 => ?_) (fun c18 => ?_)
    · skip
      replace c18 := (i_le (a := 60) (b := k) (by omega) (by omega)).mp (of_decide_eq_true c18)
      refine Pv.iload rfl rfl ?_
      exact Pv.ret rfl (by rw [hQ]; exact ⟨congrArg (fun z => some (Value.int (Int32.ofNat z))) (show e = w_dn S d from (by unfold w_dn; split <;> omega)), hxG, h43.le (by unfold w_dn; split <;> omega)⟩)
    · skip
      replace c18 := mt (i_le (a := 60) (b := k) (by omega) (by omega)).mpr (of_decide_eq_false c18)
      refine Pv.aload rfl rfl ?_
      refine Pv.getR (v := .ref 20) rfl rfl (GW.at (a := 0) (k := 5) (b := 20) hx15 (by decide)) ?_
      refine Pv.getI (z := Int32.ofNat (h_d (m_days T S k))) rfl rfl (hA.d) ?_
      refine Pv.lit rfl ?_
      refine Pv.icmp rfl (fun c19 => ?_) (fun c19 => ?_)
      · skip
        replace c19 := (i_le (a := 400) (b := h_d (m_days T S k)) (by omega) (by omega)).mp (of_decide_eq_true c19)
        refine Pv.iload rfl rfl ?_
        exact Pv.ret rfl (by rw [hQ]; exact ⟨congrArg (fun z => some (Value.int (Int32.ofNat z))) (show e = w_dn S d from (by unfold w_dn; split <;> omega)), hxG, h43.le (by unfold w_dn; split <;> omega)⟩)
      · skip
        replace c19 := mt (i_le (a := 400) (b := h_d (m_days T S k)) (by omega) (by omega)).mpr (of_decide_eq_false c19)
        refine Pv.aload rfl rfl ?_
        refine Pv.getR (v := .ref 7) rfl rfl (GW.at (a := 0) (k := 2) (b := 7) hx15 (by decide)) ?_
        refine Pv.aload rfl rfl ?_
        refine Pv.getR (v := .ref t) rfl rfl (hx16) ?_
        refine Pv.aload rfl rfl ?_
        refine Pv.getR (v := .ref 20) rfl rfl (GW.at (a := 0) (k := 5) (b := 20) hx15 (by decide)) ?_
        refine Pv.lit rfl ?_
        refine Pv.callV (as := [.ref 7, .ref t, .ref 20, .int 1]) (rest := []) rfl rfl rfl (f_passDays (n := 1) hx13 hA hx15 (by omega) (by omega) (by omega) (by omega)) ?_
        rintro _ G20 ⟨rfl, x21, sr23, pl24⟩
        have hx22 := FX.tr (P := fun q => (7 ≤ q ∧ q ≤ 9) ∨ (20 ≤ q ∧ q ≤ 35) ∨ q = 40 ∨ q = 43) hxG (x21.wd (fun q (c : (20 ≤ q ∧ q ≤ 20 + 7) ∨ (7 ≤ q ∧ q ≤ 9)) => (show (7 ≤ q ∧ q ≤ 9) ∨ (20 ≤ q ∧ q ≤ 35) ∨ q = 40 ∨ q = 43 by omega)))
        have hx25 := hx13.fx (P := fun q => (20 ≤ q ∧ q ≤ 20 + 7) ∨ (7 ≤ q ∧ q ≤ 9)) x21 (fun q h1 h2 (c : (20 ≤ q ∧ q ≤ 20 + 7) ∨ (7 ≤ q ∧ q ≤ 9)) => by omega)
        have hx26 := hx14.fx (P := fun q => (20 ≤ q ∧ q ≤ 20 + 7) ∨ (7 ≤ q ∧ q ≤ 9)) x21 (fun q h1 h2 (c : (20 ≤ q ∧ q ≤ 20 + 7) ∨ (7 ≤ q ∧ q ≤ 9)) => by omega)
        have hx27 := hx15.fx (P := fun q => (20 ≤ q ∧ q ≤ 20 + 7) ∨ (7 ≤ q ∧ q ≤ 9)) x21
        have hr28 : G20.2.1 0 13 = .ref t := by rw [x21.2.2.1]; exact hx16
        refine (show Pv _ _ 58 [some (.ref 0), some (.int (Int32.ofNat g)), some (.int (Int32.ofNat d)), some (.int (Int32.ofNat e)), some (.int (Int32.ofNat k))] [.int (Int32.ofNat (h_d (m_days T (m_days T S k) 1)) - Int32.ofNat (h_d (m_days T S k)))] G20 Q from ?_)
        have hP := pl24 0 rfl (by show h_d (m_days T S k) < 400; omega)
        have hq29 : SHR G20 20 (t_m T) (m_day T (m_days T S k)) := by have q := sr23; rw [show m_days T (m_days T S k) 1 = m_day T (m_days T S k) from if_pos (by show h_d (m_days T S k) < 400; omega)] at q; exact q
        have h43b := AR.fx h43 x21 (by omega)
        refine Pv.pop rfl ?_
        refine Pv.aload rfl rfl ?_
        refine Pv.getR (v := .ref 43) rfl rfl (GW.at (a := 0) (k := 11) (b := 43) hx27 (by decide)) ?_
        refine Pv.iload rfl rfl ?_
        refine Pv.aload rfl rfl ?_
        refine Pv.getR (v := .ref 7) rfl rfl (GW.at (a := 0) (k := 2) (b := 7) hx27 (by decide)) ?_
        refine Pv.getR (v := .ref 9) rfl rfl (GW.at (a := 7) (k := 1) (b := 9) hx27 (by decide)) ?_
        refine Pv.iload rfl rfl ?_
        refine Pv.ald (z := m_room T (m_days T S k) - m_pg T (m_days T S k) g) rfl (by rw [i_toNat (by omega)]; exact hP.2.2.2 _ (by omega)) ?_
        refine Pv.astk (k := k) (z := m_room T (m_days T S k) - m_pg T (m_days T S k) g) rfl (i_toNat (by omega)) (rfl) ?_
        refine Pv.iinc (y := Int32.ofNat (e + 1)) (lo' := [some (.ref 0), some (.int (Int32.ofNat g)), some (.int (Int32.ofNat d)), some (.int (Int32.ofNat (e + 1))), some (.int (Int32.ofNat k))]) rfl rfl (i_add e 1) rfl ?_
        refine Pv.iinc (y := Int32.ofNat (k + 1)) (lo' := [some (.ref 0), some (.int (Int32.ofNat g)), some (.int (Int32.ofNat d)), some (.int (Int32.ofNat (e + 1))), some (.int (Int32.ofNat (k + 1)))]) rfl rfl (i_add k 1) rfl ?_
        refine Pv.goto rfl ?_
        exact ih12 (k + 1, e + 1, (fp G20 43 k (m_room T (m_days T S k) - m_pg T (m_days T S k) g))) (⟨(hx22).fp (show (7 ≤ 43 ∧ 43 ≤ 9) ∨ (20 ≤ 43 ∧ 43 ≤ 35) ∨ 43 = 40 ∨ 43 = 43 by omega), ⟨by omega, by omega⟩, by rw [m_days_s (by omega)]; exact hq29, by rw [m_days_s (by omega)]; show h_d (m_days T S k) + 1 = _; omega, (h43b).ext rfl⟩)
set_option maxRecDepth 100000 in
set_option maxHeartbeats 4000000 in
theorem o_roomTowards {F : FW} {t g s n : Nat} {T : St} {S : Sh} (hG : GW F) (ht : F.2.1 0 13 = .ref t) (hT : TR F t T) (hS : SHR F 12 (t_m T) S) (h43 : AR F 43 n (w_rm T S g)) (hg : g < t_g T) (hs : s < 2) (hn : n ≤ 60) : Pm Z_X10_roomTowards [.ref 0, .int (Int32.ofNat s), .int (Int32.ofNat n)] F (fun r F' => r = some (.int (w_rt T S g s n)) ∧ F' = F) := by
  refine Pm.of fun N => ?_
  obtain ⟨Q, hQ⟩ : ∃ Q : Option Value → FW → Prop, Q = (fun r F' => r = some (.int (w_rt T S g s n)) ∧ F' = F) := ⟨_, rfl⟩
  rw [← hQ]
  have b7 := hS.db
  refine (show Pv (ab_T L_X10_roomTowards) N 0 [some (.ref 0), some (.int (Int32.ofNat s)), some (.int (Int32.ofNat n)), none, none] [] F Q from ?_)
  refine Pv.lit rfl ?_
  refine Pv.istore (lo' := [some (.ref 0), some (.int (Int32.ofNat s)), some (.int (Int32.ofNat n)), some (.int 0), none]) rfl rfl ?_
  refine Pv.lit rfl ?_
  refine Pv.istore (lo' := [some (.ref 0), some (.int (Int32.ofNat s)), some (.int (Int32.ofNat n)), some (.int 0), some (.int 0)]) rfl rfl ?_
  refine Pv.lp (ι := Nat × Int32) (lof := fun ⟨k, b⟩ => [some (.ref 0), some (.int (Int32.ofNat s)), some (.int (Int32.ofNat n)), some (.int b), some (.int (Int32.ofNat k))]) (Ff := fun ⟨k, b⟩ => F) (P := fun ⟨k, b⟩ => k ≤ n ∧ b = w_rt T S g s k) ?_ (0, 0) (⟨Nat.zero_le _, rfl⟩)
  rintro N1 hN2 ⟨k, b⟩ hi3 ih4
  refine (show Pv _ _ 5 [some (.ref 0), some (.int (Int32.ofNat s)), some (.int (Int32.ofNat n)), some (.int b), some (.int (Int32.ofNat k))] [] F Q from ?_)
  obtain ⟨hk, hb⟩ := hi3
  refine Pv.iloadS rfl rfl ?_
  refine Pv.iload rfl rfl ?_
  refine Pv.icmp rfl (fun c5 => ?_) (fun c5 => ?_)
  · skip
    replace c5 := (i_le (a := n) (b := k) (by omega) (by omega)).mp (of_decide_eq_true c5)
    refine Pv.iload rfl rfl ?_
    exact Pv.ret rfl (by rw [hQ]; exact ⟨by rw [hb, show k = n by omega], rfl⟩)
  · skip
    replace c5 := mt (i_le (a := n) (b := k) (by omega) (by omega)).mpr (of_decide_eq_false c5)
    refine Pv.iload rfl rfl ?_
    refine Pv.lit rfl ?_
    refine Pv.icmp rfl (fun c6 => ?_) (fun c6 => ?_)
    · skip
      replace c6 := (i_le (a := 60) (b := k) (by omega) (by omega)).mp (of_decide_eq_true c6)
      refine Pv.iload rfl rfl ?_
      exact Pv.ret rfl (by rw [hQ]; exact ⟨by rw [hb, show k = n by omega], rfl⟩)
    · skip
      replace c6 := mt (i_le (a := 60) (b := k) (by omega) (by omega)).mpr (of_decide_eq_false c6)
      refine Pv.aload rfl rfl ?_
      refine Pv.getR (v := .ref 12) rfl rfl (GW.at (a := 0) (k := 4) (b := 12) hG (by decide)) ?_
      refine Pv.getI (z := Int32.ofNat (h_d S)) rfl rfl (hS.d) ?_
      refine Pv.iload rfl rfl ?_
      refine Pv.bin (z := Int32.ofNat ((h_d S) + k)) rfl (i_add (h_d S) k) ?_
      refine Pv.lit rfl ?_
      refine Pv.irem (z := Int32.ofNat (((h_d S) + k) % 2)) rfl (i_rem2 (by omega)) ?_
      refine Pv.iload rfl rfl ?_
      refine Pv.icmp rfl (fun c7 => ?_) (fun c7 => ?_)
      · skip
        replace c7 := (i_eq (a := ((h_d S) + k) % 2) (b := s) (by omega) (by omega)).mp (of_decide_eq_true c7)
        refine Pv.iinc (y := Int32.ofNat (k + 1)) (lo' := [some (.ref 0), some (.int (Int32.ofNat s)), some (.int (Int32.ofNat n)), some (.int b), some (.int (Int32.ofNat (k + 1)))]) rfl rfl (i_add k 1) rfl ?_
        refine Pv.goto rfl ?_
        exact ih4 (k + 1, b) (⟨by omega, by rw [hb]; exact (if_pos c7).symm⟩)
      · skip
        replace c7 := mt (i_eq (a := ((h_d S) + k) % 2) (b := s) (by omega) (by omega)).mpr (of_decide_eq_false c7)
        refine Pv.iload rfl rfl ?_
        refine Pv.aload rfl rfl ?_
        refine Pv.getR (v := .ref 43) rfl rfl (GW.at (a := 0) (k := 11) (b := 43) hG (by decide)) ?_
        refine Pv.iload rfl rfl ?_
        refine Pv.ald (z := w_rm T S g k) rfl (by rw [i_toNat (by omega)]; exact h43 _ (by omega)) ?_
        refine Pv.bin (z := b + (w_rm T S g k)) rfl (rfl) ?_
        refine Pv.istore (lo' := [some (.ref 0), some (.int (Int32.ofNat s)), some (.int (Int32.ofNat n)), some (.int (b + (w_rm T S g k))), some (.int (Int32.ofNat k))]) rfl rfl ?_
        refine Pv.iinc (y := Int32.ofNat (k + 1)) (lo' := [some (.ref 0), some (.int (Int32.ofNat s)), some (.int (Int32.ofNat n)), some (.int (b + (w_rm T S g k))), some (.int (Int32.ofNat (k + 1)))]) rfl rfl (i_add k 1) rfl ?_
        refine Pv.goto rfl ?_
        exact ih4 (k + 1, b + (w_rm T S g k)) (⟨by omega, by rw [hb]; exact (if_neg c7).symm⟩)
set_option maxRecDepth 100000 in
set_option maxHeartbeats 4000000 in
theorem o_wouldCome {F : FW} {t g s n w : Nat} {T : St} {S : Sh} (hG : GW F) (ht : F.2.1 0 13 = .ref t) (hT : TR F t T) (hS : SHR F 12 (t_m T) S) (h43 : AR F 43 n (w_rm T S g)) (hg : g < t_g T) (hs : s < 2) (hn : n ≤ 60) : Pm Z_X10_wouldCome [.ref 0, .int (Int32.ofNat g), .int (Int32.ofNat s), .int (Int32.ofNat w), .int (Int32.ofNat n)] F (fun r F' => r = some (.int ((w_s T S g s w n).2.2)) ∧ F' = F) := by
  refine Pm.of fun N => ?_
  obtain ⟨Q, hQ⟩ : ∃ Q : Option Value → FW → Prop, Q = (fun r F' => r = some (.int ((w_s T S g s w n).2.2)) ∧ F' = F) := ⟨_, rfl⟩
  rw [← hQ]
  have b7 := hS.db
  have b5 := hT.gb
  refine (show Pv (ab_T (L_X10_wouldCome Z_X10_slotOf Z_X7_amountOf Z_X1_amountMoved Z_X7_stockAfter)) N 0 [some (.ref 0), some (.int (Int32.ofNat g)), some (.int (Int32.ofNat s)), some (.int (Int32.ofNat w)), some (.int (Int32.ofNat n)), none, none, none, none, none, none, none, none, none] [] F Q from ?_)
  refine Pv.iload rfl rfl ?_
  refine Pv.iload rfl rfl ?_
  refine Pv.callI (as := [.int (Int32.ofNat g), .int (Int32.ofNat s)]) (rest := []) (z := Int32.ofNat (2 * g + s)) rfl rfl rfl (f_slotOf (g := g) (s := s)) ?_
  refine Pv.istore (lo' := [some (.ref 0), some (.int (Int32.ofNat g)), some (.int (Int32.ofNat s)), some (.int (Int32.ofNat w)), some (.int (Int32.ofNat n)), some (.int (Int32.ofNat (2 * g + s))), none, none, none, none, none, none, none, none]) rfl rfl ?_
  refine Pv.iload rfl rfl ?_
  refine Pv.lit rfl ?_
  refine Pv.iload rfl rfl ?_
  refine Pv.bin (z := Int32.ofNat (1 - s)) rfl (i_1m (by omega)) ?_
  refine Pv.callI (as := [.int (Int32.ofNat g), .int (Int32.ofNat (1 - s))]) (rest := []) (z := Int32.ofNat (2 * g + (1 - s))) rfl rfl rfl (f_slotOf (g := g) (s := 1 - s)) ?_
  refine Pv.istore (lo' := [some (.ref 0), some (.int (Int32.ofNat g)), some (.int (Int32.ofNat s)), some (.int (Int32.ofNat w)), some (.int (Int32.ofNat n)), some (.int (Int32.ofNat (2 * g + s))), some (.int (Int32.ofNat (2 * g + (1 - s)))), none, none, none, none, none, none, none]) rfl rfl ?_
  refine Pv.aload rfl rfl ?_
  refine Pv.getR (v := .ref t) rfl rfl (ht) ?_
  refine Pv.lit rfl ?_
  refine Pv.iload rfl rfl ?_
  refine Pv.callVI (as := [.ref t, .int 1, .int (Int32.ofNat (2 * g + s))]) (rest := []) (z := t_a T (1 * 12 + (2 * g + s))) rfl rfl rfl (f_amountOf (s := 1) (k := 2 * g + s) hT (by omega)) ?_
  refine Pv.istore (lo' := [some (.ref 0), some (.int (Int32.ofNat g)), some (.int (Int32.ofNat s)), some (.int (Int32.ofNat w)), some (.int (Int32.ofNat n)), some (.int (Int32.ofNat (2 * g + s))), some (.int (Int32.ofNat (2 * g + (1 - s)))), some (.int (t_a T (1 * 12 + (2 * g + s)))), none, none, none, none, none, none]) rfl rfl ?_
  refine Pv.aload rfl rfl ?_
  refine Pv.getR (v := .ref t) rfl rfl (ht) ?_
  refine Pv.lit rfl ?_
  refine Pv.iload rfl rfl ?_
  refine Pv.callVI (as := [.ref t, .int 1, .int (Int32.ofNat (2 * g + (1 - s)))]) (rest := []) (z := t_a T (1 * 12 + (2 * g + (1 - s)))) rfl rfl rfl (f_amountOf (s := 1) (k := 2 * g + (1 - s)) hT (by omega)) ?_
  refine Pv.istore (lo' := [some (.ref 0), some (.int (Int32.ofNat g)), some (.int (Int32.ofNat s)), some (.int (Int32.ofNat w)), some (.int (Int32.ofNat n)), some (.int (Int32.ofNat (2 * g + s))), some (.int (Int32.ofNat (2 * g + (1 - s)))), some (.int (t_a T (1 * 12 + (2 * g + s)))), some (.int (t_a T (1 * 12 + (2 * g + (1 - s))))), none, none, none, none, none]) rfl rfl ?_
  refine Pv.aload rfl rfl ?_
  refine Pv.getR (v := .ref 12) rfl rfl (GW.at (a := 0) (k := 4) (b := 12) hG (by decide)) ?_
  refine Pv.getR (v := .ref 13) rfl rfl (hS.o 0 (by decide)) ?_
  refine Pv.iload rfl rfl ?_
  refine Pv.ald (z := h_s S (2 * g + s)) rfl (by rw [i_toNat (by omega)]; exact hS.s _ (by omega)) ?_
  refine Pv.iload rfl rfl ?_
  refine Pv.bin (z := (h_s S (2 * g + s)) - (Int32.ofNat w)) rfl (rfl) ?_
  refine Pv.istore (lo' := [some (.ref 0), some (.int (Int32.ofNat g)), some (.int (Int32.ofNat s)), some (.int (Int32.ofNat w)), some (.int (Int32.ofNat n)), some (.int (Int32.ofNat (2 * g + s))), some (.int (Int32.ofNat (2 * g + (1 - s)))), some (.int (t_a T (1 * 12 + (2 * g + s)))), some (.int (t_a T (1 * 12 + (2 * g + (1 - s))))), some (.int ((h_s S (2 * g + s)) - (Int32.ofNat w))), none, none, none, none]) rfl rfl ?_
  refine Pv.aload rfl rfl ?_
  refine Pv.getR (v := .ref 12) rfl rfl (GW.at (a := 0) (k := 4) (b := 12) hG (by decide)) ?_
  refine Pv.getR (v := .ref 13) rfl rfl (hS.o 0 (by decide)) ?_
  refine Pv.iload rfl rfl ?_
  refine Pv.ald (z := h_s S (2 * g + (1 - s))) rfl (by rw [i_toNat (by omega)]; exact hS.s _ (by omega)) ?_
  refine Pv.istore (lo' := [some (.ref 0), some (.int (Int32.ofNat g)), some (.int (Int32.ofNat s)), some (.int (Int32.ofNat w)), some (.int (Int32.ofNat n)), some (.int (Int32.ofNat (2 * g + s))), some (.int (Int32.ofNat (2 * g + (1 - s)))), some (.int (t_a T (1 * 12 + (2 * g + s)))), some (.int (t_a T (1 * 12 + (2 * g + (1 - s))))), some (.int ((h_s S (2 * g + s)) - (Int32.ofNat w))), some (.int (h_s S (2 * g + (1 - s)))), none, none, none]) rfl rfl ?_
  refine Pv.lit rfl ?_
  refine Pv.istore (lo' := [some (.ref 0), some (.int (Int32.ofNat g)), some (.int (Int32.ofNat s)), some (.int (Int32.ofNat w)), some (.int (Int32.ofNat n)), some (.int (Int32.ofNat (2 * g + s))), some (.int (Int32.ofNat (2 * g + (1 - s)))), some (.int (t_a T (1 * 12 + (2 * g + s)))), some (.int (t_a T (1 * 12 + (2 * g + (1 - s))))), some (.int ((h_s S (2 * g + s)) - (Int32.ofNat w))), some (.int (h_s S (2 * g + (1 - s)))), some (.int 0), none, none]) rfl rfl ?_
  refine Pv.lit rfl ?_
  refine Pv.istore (lo' := [some (.ref 0), some (.int (Int32.ofNat g)), some (.int (Int32.ofNat s)), some (.int (Int32.ofNat w)), some (.int (Int32.ofNat n)), some (.int (Int32.ofNat (2 * g + s))), some (.int (Int32.ofNat (2 * g + (1 - s)))), some (.int (t_a T (1 * 12 + (2 * g + s)))), some (.int (t_a T (1 * 12 + (2 * g + (1 - s))))), some (.int ((h_s S (2 * g + s)) - (Int32.ofNat w))), some (.int (h_s S (2 * g + (1 - s)))), some (.int 0), some (.int 0), none]) rfl rfl ?_
  refine Pv.lp (ι := Nat × Int32 × Int32 × Int32 × (Option Value)) (lof := fun ⟨k, h, u, c, o1⟩ => [some (.ref 0), some (.int (Int32.ofNat g)), some (.int (Int32.ofNat s)), some (.int (Int32.ofNat w)), some (.int (Int32.ofNat n)), some (.int (Int32.ofNat (2 * g + s))), some (.int (Int32.ofNat (2 * g + (1 - s)))), some (.int (t_a T (1 * 12 + (2 * g + s)))), some (.int (t_a T (1 * 12 + (2 * g + (1 - s))))), some (.int h), some (.int u), some (.int c), some (.int (Int32.ofNat k)), o1]) (Ff := fun ⟨k, h, u, c, o1⟩ => F) (P := fun ⟨k, h, u, c, o1⟩ => k ≤ n ∧ h = (w_s T S g s w k).1 ∧ u = (w_s T S g s w k).2.1 ∧ c = (w_s T S g s w k).2.2) ?_ (0, (h_s S (2 * g + s)) - (Int32.ofNat w), h_s S (2 * g + (1 - s)), 0, none) (⟨Nat.zero_le _, rfl, rfl, rfl⟩)
  rintro N2 hN3 ⟨k, h, u, c, o1⟩ hi4 ih5
  refine (show Pv _ _ 72 [some (.ref 0), some (.int (Int32.ofNat g)), some (.int (Int32.ofNat s)), some (.int (Int32.ofNat w)), some (.int (Int32.ofNat n)), some (.int (Int32.ofNat (2 * g + s))), some (.int (Int32.ofNat (2 * g + (1 - s)))), some (.int (t_a T (1 * 12 + (2 * g + s)))), some (.int (t_a T (1 * 12 + (2 * g + (1 - s))))), some (.int h), some (.int u), some (.int c), some (.int (Int32.ofNat k)), o1] [] F Q from ?_)
  obtain ⟨hk, e1, e2, e3⟩ := hi4
  refine Pv.iloadS rfl rfl ?_
  refine Pv.iload rfl rfl ?_
  refine Pv.icmp rfl (fun c6 => ?_) (fun c6 => ?_)
  · skip
    replace c6 := (i_le (a := n) (b := k) (by omega) (by omega)).mp (of_decide_eq_true c6)
    refine Pv.iload rfl rfl ?_
    exact Pv.ret rfl (by rw [hQ]; exact ⟨by rw [e3, show k = n by omega], rfl⟩)
  · skip
    replace c6 := mt (i_le (a := n) (b := k) (by omega) (by omega)).mpr (of_decide_eq_false c6)
    refine Pv.iload rfl rfl ?_
    refine Pv.lit rfl ?_
    refine Pv.icmp rfl (fun c7 => ?_) (fun c7 => ?_)
    · skip
      replace c7 := (i_le (a := 60) (b := k) (by omega) (by omega)).mp (of_decide_eq_true c7)
      refine Pv.iload rfl rfl ?_
      exact Pv.ret rfl (by rw [hQ]; exact ⟨by rw [e3, show k = n by omega], rfl⟩)
    · skip
      replace c7 := mt (i_le (a := 60) (b := k) (by omega) (by omega)).mpr (of_decide_eq_false c7)
      refine Pv.aload rfl rfl ?_
      refine Pv.getR (v := .ref 12) rfl rfl (GW.at (a := 0) (k := 4) (b := 12) hG (by decide)) ?_
      refine Pv.getI (z := Int32.ofNat (h_d S)) rfl rfl (hS.d) ?_
      refine Pv.iload rfl rfl ?_
      refine Pv.bin (z := Int32.ofNat ((h_d S) + k)) rfl (i_add (h_d S) k) ?_
      refine Pv.lit rfl ?_
      refine Pv.irem (z := Int32.ofNat (((h_d S) + k) % 2)) rfl (i_rem2 (by omega)) ?_
      refine Pv.iload rfl rfl ?_
      refine Pv.icmp rfl (fun c8 => ?_) (fun c8 => ?_)
      · skip
        replace c8 : decide (Int32.ofNat (((h_d S) + k) % 2) = Int32.ofNat s) = false := by simpa using c8
        replace c8 := mt (i_eq (a := ((h_d S) + k) % 2) (b := s) (by omega) (by omega)).mpr (of_decide_eq_false c8)
        refine Pv.iload rfl rfl ?_
        refine Pv.iload rfl rfl ?_
        refine Pv.iload rfl rfl ?_
        refine Pv.bin (z := (t_a T (1 * 12 + (2 * g + s))) - h) rfl (rfl) ?_
        refine Pv.aload rfl rfl ?_
        refine Pv.getR (v := .ref 43) rfl rfl (GW.at (a := 0) (k := 11) (b := 43) hG (by decide)) ?_
        refine Pv.iload rfl rfl ?_
        refine Pv.ald (z := w_rm T S g k) rfl (by rw [i_toNat (by omega)]; exact h43 _ (by omega)) ?_
        refine Pv.callI (as := [.int u, .int ((t_a T (1 * 12 + (2 * g + s))) - h), .int (w_rm T S g k)]) (rest := []) (z := m_moved u ((t_a T (1 * 12 + (2 * g + s))) - h) (w_rm T S g k)) rfl rfl rfl (f_amountMoved (x := u) (y := (t_a T (1 * 12 + (2 * g + s))) - h) (z := w_rm T S g k)) ?_
        refine Pv.istore (lo' := [some (.ref 0), some (.int (Int32.ofNat g)), some (.int (Int32.ofNat s)), some (.int (Int32.ofNat w)), some (.int (Int32.ofNat n)), some (.int (Int32.ofNat (2 * g + s))), some (.int (Int32.ofNat (2 * g + (1 - s)))), some (.int (t_a T (1 * 12 + (2 * g + s)))), some (.int (t_a T (1 * 12 + (2 * g + (1 - s))))), some (.int h), some (.int u), some (.int c), some (.int (Int32.ofNat k)), some (.int (m_moved u ((t_a T (1 * 12 + (2 * g + s))) - h) (w_rm T S g k)))]) rfl rfl ?_
        refine Pv.iload rfl rfl ?_
        refine Pv.iload rfl rfl ?_
        refine Pv.bin (z := h + (m_moved u ((t_a T (1 * 12 + (2 * g + s))) - h) (w_rm T S g k))) rfl (rfl) ?_
        refine Pv.istore (lo' := [some (.ref 0), some (.int (Int32.ofNat g)), some (.int (Int32.ofNat s)), some (.int (Int32.ofNat w)), some (.int (Int32.ofNat n)), some (.int (Int32.ofNat (2 * g + s))), some (.int (Int32.ofNat (2 * g + (1 - s)))), some (.int (t_a T (1 * 12 + (2 * g + s)))), some (.int (t_a T (1 * 12 + (2 * g + (1 - s))))), some (.int (h + (m_moved u ((t_a T (1 * 12 + (2 * g + s))) - h) (w_rm T S g k)))), some (.int u), some (.int c), some (.int (Int32.ofNat k)), some (.int (m_moved u ((t_a T (1 * 12 + (2 * g + s))) - h) (w_rm T S g k)))]) rfl rfl ?_
        refine Pv.iload rfl rfl ?_
        refine Pv.iload rfl rfl ?_
        refine Pv.bin (z := u - (m_moved u ((t_a T (1 * 12 + (2 * g + s))) - h) (w_rm T S g k))) rfl (rfl) ?_
        refine Pv.istore (lo' := [some (.ref 0), some (.int (Int32.ofNat g)), some (.int (Int32.ofNat s)), some (.int (Int32.ofNat w)), some (.int (Int32.ofNat n)), some (.int (Int32.ofNat (2 * g + s))), some (.int (Int32.ofNat (2 * g + (1 - s)))), some (.int (t_a T (1 * 12 + (2 * g + s)))), some (.int (t_a T (1 * 12 + (2 * g + (1 - s))))), some (.int (h + (m_moved u ((t_a T (1 * 12 + (2 * g + s))) - h) (w_rm T S g k)))), some (.int (u - (m_moved u ((t_a T (1 * 12 + (2 * g + s))) - h) (w_rm T S g k)))), some (.int c), some (.int (Int32.ofNat k)), some (.int (m_moved u ((t_a T (1 * 12 + (2 * g + s))) - h) (w_rm T S g k)))]) rfl rfl ?_
        refine Pv.iload rfl rfl ?_
        refine Pv.iload rfl rfl ?_
        refine Pv.bin (z := c + (m_moved u ((t_a T (1 * 12 + (2 * g + s))) - h) (w_rm T S g k))) rfl (rfl) ?_
        refine Pv.istore (lo' := [some (.ref 0), some (.int (Int32.ofNat g)), some (.int (Int32.ofNat s)), some (.int (Int32.ofNat w)), some (.int (Int32.ofNat n)), some (.int (Int32.ofNat (2 * g + s))), some (.int (Int32.ofNat (2 * g + (1 - s)))), some (.int (t_a T (1 * 12 + (2 * g + s)))), some (.int (t_a T (1 * 12 + (2 * g + (1 - s))))), some (.int (h + (m_moved u ((t_a T (1 * 12 + (2 * g + s))) - h) (w_rm T S g k)))), some (.int (u - (m_moved u ((t_a T (1 * 12 + (2 * g + s))) - h) (w_rm T S g k)))), some (.int (c + (m_moved u ((t_a T (1 * 12 + (2 * g + s))) - h) (w_rm T S g k)))), some (.int (Int32.ofNat k)), some (.int (m_moved u ((t_a T (1 * 12 + (2 * g + s))) - h) (w_rm T S g k)))]) rfl rfl ?_
        refine Pv.aload rfl rfl ?_
        refine Pv.getR (v := .ref t) rfl rfl (ht) ?_
        refine Pv.iload rfl rfl ?_
        refine Pv.iload rfl rfl ?_
        refine Pv.callVI (as := [.ref t, .int (Int32.ofNat (2 * g + s)), .int (h + (m_moved u ((t_a T (1 * 12 + (2 * g + s))) - h) (w_rm T S g k)))]) (rest := []) (z := ab_max 0 (m_left T (2 * g + s) (h + (m_moved u ((t_a T (1 * 12 + (2 * g + s))) - h) (w_rm T S g k))))) rfl rfl rfl (f_stockAfter (k := 2 * g + s) (x := h + (m_moved u ((t_a T (1 * 12 + (2 * g + s))) - h) (w_rm T S g k))) hT (by omega)) ?_
        refine Pv.istore (lo' := [some (.ref 0), some (.int (Int32.ofNat g)), some (.int (Int32.ofNat s)), some (.int (Int32.ofNat w)), some (.int (Int32.ofNat n)), some (.int (Int32.ofNat (2 * g + s))), some (.int (Int32.ofNat (2 * g + (1 - s)))), some (.int (t_a T (1 * 12 + (2 * g + s)))), some (.int (t_a T (1 * 12 + (2 * g + (1 - s))))), some (.int (ab_max 0 (m_left T (2 * g + s) (h + (m_moved u ((t_a T (1 * 12 + (2 * g + s))) - h) (w_rm T S g k)))))), some (.int (u - (m_moved u ((t_a T (1 * 12 + (2 * g + s))) - h) (w_rm T S g k)))), some (.int (c + (m_moved u ((t_a T (1 * 12 + (2 * g + s))) - h) (w_rm T S g k)))), some (.int (Int32.ofNat k)), some (.int (m_moved u ((t_a T (1 * 12 + (2 * g + s))) - h) (w_rm T S g k)))]) rfl rfl ?_
        refine Pv.aload rfl rfl ?_
        refine Pv.getR (v := .ref t) rfl rfl (ht) ?_
        refine Pv.iload rfl rfl ?_
        refine Pv.iload rfl rfl ?_
        refine Pv.callVI (as := [.ref t, .int (Int32.ofNat (2 * g + (1 - s))), .int (u - (m_moved u ((t_a T (1 * 12 + (2 * g + s))) - h) (w_rm T S g k)))]) (rest := []) (z := ab_max 0 (m_left T (2 * g + (1 - s)) (u - (m_moved u ((t_a T (1 * 12 + (2 * g + s))) - h) (w_rm T S g k))))) rfl rfl rfl (f_stockAfter (k := 2 * g + (1 - s)) (x := u - (m_moved u ((t_a T (1 * 12 + (2 * g + s))) - h) (w_rm T S g k))) hT (by omega)) ?_
        refine Pv.istore (lo' := [some (.ref 0), some (.int (Int32.ofNat g)), some (.int (Int32.ofNat s)), some (.int (Int32.ofNat w)), some (.int (Int32.ofNat n)), some (.int (Int32.ofNat (2 * g + s))), some (.int (Int32.ofNat (2 * g + (1 - s)))), some (.int (t_a T (1 * 12 + (2 * g + s)))), some (.int (t_a T (1 * 12 + (2 * g + (1 - s))))), some (.int (ab_max 0 (m_left T (2 * g + s) (h + (m_moved u ((t_a T (1 * 12 + (2 * g + s))) - h) (w_rm T S g k)))))), some (.int (ab_max 0 (m_left T (2 * g + (1 - s)) (u - (m_moved u ((t_a T (1 * 12 + (2 * g + s))) - h) (w_rm T S g k)))))), some (.int (c + (m_moved u ((t_a T (1 * 12 + (2 * g + s))) - h) (w_rm T S g k)))), some (.int (Int32.ofNat k)), some (.int (m_moved u ((t_a T (1 * 12 + (2 * g + s))) - h) (w_rm T S g k)))]) rfl rfl ?_
        refine Pv.iinc (y := Int32.ofNat (k + 1)) (lo' := [some (.ref 0), some (.int (Int32.ofNat g)), some (.int (Int32.ofNat s)), some (.int (Int32.ofNat w)), some (.int (Int32.ofNat n)), some (.int (Int32.ofNat (2 * g + s))), some (.int (Int32.ofNat (2 * g + (1 - s)))), some (.int (t_a T (1 * 12 + (2 * g + s)))), some (.int (t_a T (1 * 12 + (2 * g + (1 - s))))), some (.int (ab_max 0 (m_left T (2 * g + s) (h + (m_moved u ((t_a T (1 * 12 + (2 * g + s))) - h) (w_rm T S g k)))))), some (.int (ab_max 0 (m_left T (2 * g + (1 - s)) (u - (m_moved u ((t_a T (1 * 12 + (2 * g + s))) - h) (w_rm T S g k)))))), some (.int (c + (m_moved u ((t_a T (1 * 12 + (2 * g + s))) - h) (w_rm T S g k)))), some (.int (Int32.ofNat (k + 1))), some (.int (m_moved u ((t_a T (1 * 12 + (2 * g + s))) - h) (w_rm T S g k)))]) rfl rfl (i_add k 1) rfl ?_
        refine Pv.goto rfl ?_
        exact ih5 (k + 1, ab_max 0 (m_left T (2 * g + s) (h + (m_moved u ((t_a T (1 * 12 + (2 * g + s))) - h) (w_rm T S g k)))), ab_max 0 (m_left T (2 * g + (1 - s)) (u - (m_moved u ((t_a T (1 * 12 + (2 * g + s))) - h) (w_rm T S g k)))), c + (m_moved u ((t_a T (1 * 12 + (2 * g + s))) - h) (w_rm T S g k)), (some (.int (m_moved u ((t_a T (1 * 12 + (2 * g + s))) - h) (w_rm T S g k))))) (⟨by omega, by rw [w_s_f c8, ← e1, ← e2], by rw [w_s_f c8, ← e1, ← e2], by rw [w_s_f c8, ← e1, ← e2, ← e3]⟩)
      · skip
        replace c8 : decide (Int32.ofNat (((h_d S) + k) % 2) = Int32.ofNat s) = true := by simpa using c8
        replace c8 := (i_eq (a := ((h_d S) + k) % 2) (b := s) (by omega) (by omega)).mp (of_decide_eq_true c8)
        refine Pv.iload rfl rfl ?_
        refine Pv.iload rfl rfl ?_
        refine Pv.iload rfl rfl ?_
        refine Pv.bin (z := (t_a T (1 * 12 + (2 * g + (1 - s)))) - u) rfl (rfl) ?_
        refine Pv.aload rfl rfl ?_
        refine Pv.getR (v := .ref 43) rfl rfl (GW.at (a := 0) (k := 11) (b := 43) hG (by decide)) ?_
        refine Pv.iload rfl rfl ?_
        refine Pv.ald (z := w_rm T S g k) rfl (by rw [i_toNat (by omega)]; exact h43 _ (by omega)) ?_
        refine Pv.callI (as := [.int h, .int ((t_a T (1 * 12 + (2 * g + (1 - s)))) - u), .int (w_rm T S g k)]) (rest := []) (z := m_moved h ((t_a T (1 * 12 + (2 * g + (1 - s)))) - u) (w_rm T S g k)) rfl rfl rfl (f_amountMoved (x := h) (y := (t_a T (1 * 12 + (2 * g + (1 - s)))) - u) (z := w_rm T S g k)) ?_
        refine Pv.istore (lo' := [some (.ref 0), some (.int (Int32.ofNat g)), some (.int (Int32.ofNat s)), some (.int (Int32.ofNat w)), some (.int (Int32.ofNat n)), some (.int (Int32.ofNat (2 * g + s))), some (.int (Int32.ofNat (2 * g + (1 - s)))), some (.int (t_a T (1 * 12 + (2 * g + s)))), some (.int (t_a T (1 * 12 + (2 * g + (1 - s))))), some (.int h), some (.int u), some (.int c), some (.int (Int32.ofNat k)), some (.int (m_moved h ((t_a T (1 * 12 + (2 * g + (1 - s)))) - u) (w_rm T S g k)))]) rfl rfl ?_
        refine Pv.iload rfl rfl ?_
        refine Pv.iload rfl rfl ?_
        refine Pv.bin (z := h - (m_moved h ((t_a T (1 * 12 + (2 * g + (1 - s)))) - u) (w_rm T S g k))) rfl (rfl) ?_
        refine Pv.istore (lo' := [some (.ref 0), some (.int (Int32.ofNat g)), some (.int (Int32.ofNat s)), some (.int (Int32.ofNat w)), some (.int (Int32.ofNat n)), some (.int (Int32.ofNat (2 * g + s))), some (.int (Int32.ofNat (2 * g + (1 - s)))), some (.int (t_a T (1 * 12 + (2 * g + s)))), some (.int (t_a T (1 * 12 + (2 * g + (1 - s))))), some (.int (h - (m_moved h ((t_a T (1 * 12 + (2 * g + (1 - s)))) - u) (w_rm T S g k)))), some (.int u), some (.int c), some (.int (Int32.ofNat k)), some (.int (m_moved h ((t_a T (1 * 12 + (2 * g + (1 - s)))) - u) (w_rm T S g k)))]) rfl rfl ?_
        refine Pv.iload rfl rfl ?_
        refine Pv.iload rfl rfl ?_
        refine Pv.bin (z := u + (m_moved h ((t_a T (1 * 12 + (2 * g + (1 - s)))) - u) (w_rm T S g k))) rfl (rfl) ?_
        refine Pv.istore (lo' := [some (.ref 0), some (.int (Int32.ofNat g)), some (.int (Int32.ofNat s)), some (.int (Int32.ofNat w)), some (.int (Int32.ofNat n)), some (.int (Int32.ofNat (2 * g + s))), some (.int (Int32.ofNat (2 * g + (1 - s)))), some (.int (t_a T (1 * 12 + (2 * g + s)))), some (.int (t_a T (1 * 12 + (2 * g + (1 - s))))), some (.int (h - (m_moved h ((t_a T (1 * 12 + (2 * g + (1 - s)))) - u) (w_rm T S g k)))), some (.int (u + (m_moved h ((t_a T (1 * 12 + (2 * g + (1 - s)))) - u) (w_rm T S g k)))), some (.int c), some (.int (Int32.ofNat k)), some (.int (m_moved h ((t_a T (1 * 12 + (2 * g + (1 - s)))) - u) (w_rm T S g k)))]) rfl rfl ?_
        refine Pv.goto rfl ?_
        refine Pv.aload rfl rfl ?_
        refine Pv.getR (v := .ref t) rfl rfl (ht) ?_
        refine Pv.iload rfl rfl ?_
        refine Pv.iload rfl rfl ?_
        refine Pv.callVI (as := [.ref t, .int (Int32.ofNat (2 * g + s)), .int (h - (m_moved h ((t_a T (1 * 12 + (2 * g + (1 - s)))) - u) (w_rm T S g k)))]) (rest := []) (z := ab_max 0 (m_left T (2 * g + s) (h - (m_moved h ((t_a T (1 * 12 + (2 * g + (1 - s)))) - u) (w_rm T S g k))))) rfl rfl rfl (f_stockAfter (k := 2 * g + s) (x := h - (m_moved h ((t_a T (1 * 12 + (2 * g + (1 - s)))) - u) (w_rm T S g k))) hT (by omega)) ?_
        refine Pv.istore (lo' := [some (.ref 0), some (.int (Int32.ofNat g)), some (.int (Int32.ofNat s)), some (.int (Int32.ofNat w)), some (.int (Int32.ofNat n)), some (.int (Int32.ofNat (2 * g + s))), some (.int (Int32.ofNat (2 * g + (1 - s)))), some (.int (t_a T (1 * 12 + (2 * g + s)))), some (.int (t_a T (1 * 12 + (2 * g + (1 - s))))), some (.int (ab_max 0 (m_left T (2 * g + s) (h - (m_moved h ((t_a T (1 * 12 + (2 * g + (1 - s)))) - u) (w_rm T S g k)))))), some (.int (u + (m_moved h ((t_a T (1 * 12 + (2 * g + (1 - s)))) - u) (w_rm T S g k)))), some (.int c), some (.int (Int32.ofNat k)), some (.int (m_moved h ((t_a T (1 * 12 + (2 * g + (1 - s)))) - u) (w_rm T S g k)))]) rfl rfl ?_
        refine Pv.aload rfl rfl ?_
        refine Pv.getR (v := .ref t) rfl rfl (ht) ?_
        refine Pv.iload rfl rfl ?_
        refine Pv.iload rfl rfl ?_
        refine Pv.callVI (as := [.ref t, .int (Int32.ofNat (2 * g + (1 - s))), .int (u + (m_moved h ((t_a T (1 * 12 + (2 * g + (1 - s)))) - u) (w_rm T S g k)))]) (rest := []) (z := ab_max 0 (m_left T (2 * g + (1 - s)) (u + (m_moved h ((t_a T (1 * 12 + (2 * g + (1 - s)))) - u) (w_rm T S g k))))) rfl rfl rfl (f_stockAfter (k := 2 * g + (1 - s)) (x := u + (m_moved h ((t_a T (1 * 12 + (2 * g + (1 - s)))) - u) (w_rm T S g k))) hT (by omega)) ?_
        refine Pv.istore (lo' := [some (.ref 0), some (.int (Int32.ofNat g)), some (.int (Int32.ofNat s)), some (.int (Int32.ofNat w)), some (.int (Int32.ofNat n)), some (.int (Int32.ofNat (2 * g + s))), some (.int (Int32.ofNat (2 * g + (1 - s)))), some (.int (t_a T (1 * 12 + (2 * g + s)))), some (.int (t_a T (1 * 12 + (2 * g + (1 - s))))), some (.int (ab_max 0 (m_left T (2 * g + s) (h - (m_moved h ((t_a T (1 * 12 + (2 * g + (1 - s)))) - u) (w_rm T S g k)))))), some (.int (ab_max 0 (m_left T (2 * g + (1 - s)) (u + (m_moved h ((t_a T (1 * 12 + (2 * g + (1 - s)))) - u) (w_rm T S g k)))))), some (.int c), some (.int (Int32.ofNat k)), some (.int (m_moved h ((t_a T (1 * 12 + (2 * g + (1 - s)))) - u) (w_rm T S g k)))]) rfl rfl ?_
        refine Pv.iinc (y := Int32.ofNat (k + 1)) (lo' := [some (.ref 0), some (.int (Int32.ofNat g)), some (.int (Int32.ofNat s)), some (.int (Int32.ofNat w)), some (.int (Int32.ofNat n)), some (.int (Int32.ofNat (2 * g + s))), some (.int (Int32.ofNat (2 * g + (1 - s)))), some (.int (t_a T (1 * 12 + (2 * g + s)))), some (.int (t_a T (1 * 12 + (2 * g + (1 - s))))), some (.int (ab_max 0 (m_left T (2 * g + s) (h - (m_moved h ((t_a T (1 * 12 + (2 * g + (1 - s)))) - u) (w_rm T S g k)))))), some (.int (ab_max 0 (m_left T (2 * g + (1 - s)) (u + (m_moved h ((t_a T (1 * 12 + (2 * g + (1 - s)))) - u) (w_rm T S g k)))))), some (.int c), some (.int (Int32.ofNat (k + 1))), some (.int (m_moved h ((t_a T (1 * 12 + (2 * g + (1 - s)))) - u) (w_rm T S g k)))]) rfl rfl (i_add k 1) rfl ?_
        refine Pv.goto rfl ?_
        exact ih5 (k + 1, ab_max 0 (m_left T (2 * g + s) (h - (m_moved h ((t_a T (1 * 12 + (2 * g + (1 - s)))) - u) (w_rm T S g k)))), ab_max 0 (m_left T (2 * g + (1 - s)) (u + (m_moved h ((t_a T (1 * 12 + (2 * g + (1 - s)))) - u) (w_rm T S g k)))), c, (some (.int (m_moved h ((t_a T (1 * 12 + (2 * g + (1 - s)))) - u) (w_rm T S g k))))) (⟨by omega, by rw [w_s_t c8, ← e1, ← e2], by rw [w_s_t c8, ← e1, ← e2], by rw [w_s_t c8, ← e3]⟩)
set_option maxRecDepth 100000 in
set_option maxHeartbeats 4000000 in
theorem o_without {F : FW} {t : Nat} {T : St} {S : Sh} (hG : GW F) (ht : F.2.1 0 13 = .ref t) (hT : TR F t T) (hS : SHR F 12 (t_m T) S) (j0 : t = 45 ∨ t = 53) (hI : INV T S) (x y z w : Int32) : Pm Z_X10_without [.ref 0, .int x, .int y, .int z, .int w] F (fun r F' => r = some (.int (c_without T S x y z w)) ∧ CDR F F') := by
  refine Pm.of fun N => ?_
  obtain ⟨Q, hQ⟩ : ∃ Q : Option Value → FW → Prop, Q = (fun r F' => r = some (.int (c_without T S x y z w)) ∧ CDR F F') := ⟨_, rfl⟩
  rw [← hQ]
  have b3 := hT.mb
  have b4 := hT.nb
  have b5 := hT.gb
  have b6 := m_from_lt S
  have b7 := hS.db
  refine (show Pv (ab_T (L_X10_without Z_X10_isSlot Z_X10_isWithin Z_X10_foreseeRoom Z_X10_roomTowards Z_X10_slotOf Z_X10_wouldCome)) N 0 [some (.ref 0), some (.int x), some (.int y), some (.int z), some (.int w), none, none, none] [] F Q from ?_)
  refine Pv.aload rfl rfl ?_
  refine Pv.iload rfl rfl ?_
  refine Pv.iload rfl rfl ?_
  refine Pv.callVI (as := [.ref 0, .int x, .int y]) (rest := []) (z := b2i ((nd (t_g T) x).isSome && (nd 2 y).isSome)) rfl rfl rfl (o_isSlot hG ht hT hS j0 x y) ?_
  refine Pv.if0 rfl (fun c1 => ?_) (fun c1 => ?_)
  · skip
    replace c1 := of_decide_eq_true c1
    replace c1 := b2z.mp c1
    refine Pv.lit rfl ?_
    exact Pv.ret rfl (by rw [hQ]; exact ⟨by unfold c_without; rw [aGS_f c1], FX.rf⟩)
  · skip
    replace c1 := of_decide_eq_false c1
    replace c1 := b2n.mp c1
    obtain ⟨g, s, hg, hs, hgl, hsl, rfl, rfl⟩ := gs_t c1
    refine Pv.iload rfl rfl ?_
    refine Pv.lit rfl ?_
    refine Pv.callI (as := [.int z, .int 250]) (rest := []) (z := b2i (decide (1 ≤ z) && decide (z ≤ 250))) rfl rfl rfl ((o_isWithin z 250)) ?_
    refine Pv.if0 rfl (fun c2 => ?_) (fun c2 => ?_)
    · skip
      replace c2 := of_decide_eq_true c2
      replace c2 := b2z.mp c2
      refine Pv.lit rfl ?_
      exact Pv.ret rfl (by rw [hQ]; exact ⟨by unfold c_without; rw [aGS_t hg hs, ndr_f ((ndr_in (a := 1) (b := 250) (by omega) (by omega)).symm.trans c2)], FX.rf⟩)
    · skip
      replace c2 := of_decide_eq_false c2
      replace c2 := b2n.mp c2
      obtain ⟨n, hn, hna, hnb, rfl⟩ := ndr_t ((ndr_in (a := 1) (b := 250) (by omega) (by omega)).symm.trans c2)
      refine Pv.iload rfl rfl ?_
      refine Pv.lit rfl ?_
      refine Pv.callI (as := [.int w, .int 60]) (rest := []) (z := b2i (decide (1 ≤ w) && decide (w ≤ 60))) rfl rfl rfl ((o_isWithin w 60)) ?_
      refine Pv.if0 rfl (fun c3 => ?_) (fun c3 => ?_)
      · skip
        replace c3 : decide (b2i (decide (1 ≤ w) && decide (w ≤ 60)) = 0) = false := by simpa using c3
        replace c3 := of_decide_eq_false c3
        replace c3 := b2n.mp c3
        obtain ⟨d, hd, hda, hdb, rfl⟩ := ndr_t ((ndr_in (a := 1) (b := 60) (by omega) (by omega)).symm.trans c3)
        refine Pv.aload rfl rfl ?_
        refine Pv.iload rfl rfl ?_
        refine Pv.iload rfl rfl ?_
        refine Pv.callV (as := [.ref 0, .int (Int32.ofNat g), .int (Int32.ofNat d)]) (rest := []) rfl rfl rfl (o_foreseeRoom (g := g) (d := d) hG ht hT hS j0 hgl (by omega) (by omega)) ?_
        rintro _ G4 ⟨rfl, x5, hr6⟩
        have hx7 := hT.fx (P := fun q => (7 ≤ q ∧ q ≤ 9) ∨ (20 ≤ q ∧ q ≤ 35) ∨ q = 40 ∨ q = 43) x5 (fun q h1 h2 (c : (7 ≤ q ∧ q ≤ 9) ∨ (20 ≤ q ∧ q ≤ 35) ∨ q = 40 ∨ q = 43) => by omega)
        have hx8 := hS.fx (P := fun q => (7 ≤ q ∧ q ≤ 9) ∨ (20 ≤ q ∧ q ≤ 35) ∨ q = 40 ∨ q = 43) x5 (fun q h1 h2 (c : (7 ≤ q ∧ q ≤ 9) ∨ (20 ≤ q ∧ q ≤ 35) ∨ q = 40 ∨ q = 43) => by omega)
        have hx9 := hG.fx (P := fun q => (7 ≤ q ∧ q ≤ 9) ∨ (20 ≤ q ∧ q ≤ 35) ∨ q = 40 ∨ q = 43) x5
        have hx10 : G4.2.1 0 13 = .ref t := by rw [x5.2.2.1]; exact ht
        have hwd : w_dn S d ≤ 60 := by unfold w_dn; split <;> omega
        refine (show Pv _ _ 38 [some (.ref 0), some (.int (Int32.ofNat g)), some (.int (Int32.ofNat s)), some (.int (Int32.ofNat n)), some (.int (Int32.ofNat d)), none, none, none] [.int (Int32.ofNat (w_dn S d))] G4 Q from ?_)
        refine Pv.istore (lo' := [some (.ref 0), some (.int (Int32.ofNat g)), some (.int (Int32.ofNat s)), some (.int (Int32.ofNat n)), some (.int (Int32.ofNat d)), some (.int (Int32.ofNat (w_dn S d))), none, none]) rfl rfl ?_
        refine Pv.aload rfl rfl ?_
        refine Pv.iload rfl rfl ?_
        refine Pv.iload rfl rfl ?_
        refine Pv.callVI (as := [.ref 0, .int (Int32.ofNat s), .int (Int32.ofNat (w_dn S d))]) (rest := []) (z := w_rt T S g s (w_dn S d)) rfl rfl rfl (o_roomTowards (g := g) (s := s) (n := w_dn S d) hx9 hx10 hx7 hx8 hr6 hgl hsl hwd) ?_
        refine Pv.iload rfl rfl ?_
        refine Pv.icmp rfl (fun c11 => ?_) (fun c11 => ?_)
        · skip
          replace c11 := of_decide_eq_true c11
          refine Pv.aload rfl rfl ?_
          refine Pv.getR (v := .ref 12) rfl rfl (GW.at (a := 0) (k := 4) (b := 12) hx9 (by decide)) ?_
          refine Pv.getR (v := .ref 13) rfl rfl (hx8.o 0 (by decide)) ?_
          refine Pv.iload rfl rfl ?_
          refine Pv.iload rfl rfl ?_
          refine Pv.callI (as := [.int (Int32.ofNat g), .int (Int32.ofNat s)]) (rest := [.ref 13]) (z := Int32.ofNat (2 * g + s)) rfl rfl rfl (f_slotOf (g := g) (s := s)) ?_
          refine Pv.ald (z := h_s S (2 * g + s)) rfl (by rw [i_toNat (by omega)]; exact hx8.s _ (by omega)) ?_
          obtain ⟨st, hst, est, stb⟩ := nat_of (hI.sb (2 * g + s) (by omega)).1
          have stc : st ≤ 999 := by have := (hI.sb (2 * g + s) (by omega)).2; omega
          rw [est]
          refine Pv.istore (lo' := [some (.ref 0), some (.int (Int32.ofNat g)), some (.int (Int32.ofNat s)), some (.int (Int32.ofNat n)), some (.int (Int32.ofNat d)), some (.int (Int32.ofNat (w_dn S d))), some (.int (Int32.ofNat st)), none]) rfl rfl ?_
          refine Pv.lit rfl ?_
          refine Pv.istore (lo' := [some (.ref 0), some (.int (Int32.ofNat g)), some (.int (Int32.ofNat s)), some (.int (Int32.ofNat n)), some (.int (Int32.ofNat d)), some (.int (Int32.ofNat (w_dn S d))), some (.int (Int32.ofNat st)), some (.int 0)]) rfl rfl ?_
          refine Pv.lp (ι := Nat) (lof := fun v => [some (.ref 0), some (.int (Int32.ofNat g)), some (.int (Int32.ofNat s)), some (.int (Int32.ofNat n)), some (.int (Int32.ofNat d)), some (.int (Int32.ofNat (w_dn S d))), some (.int (Int32.ofNat st)), some (.int (Int32.ofNat v))]) (Ff := fun v => G4) (P := fun v => v ≤ st + 1 ∧ m_fst (pWc T S g s n d) v = none) ?_ 0 (⟨Nat.zero_le _, rfl⟩)
          rintro N12 hN13 v hi14 ih15
          refine (show Pv _ _ 71 [some (.ref 0), some (.int (Int32.ofNat g)), some (.int (Int32.ofNat s)), some (.int (Int32.ofNat n)), some (.int (Int32.ofNat d)), some (.int (Int32.ofNat (w_dn S d))), some (.int (Int32.ofNat st)), some (.int (Int32.ofNat v))] [] G4 Q from ?_)
          obtain ⟨hv, hb⟩ := hi14
          refine Pv.iloadS rfl rfl ?_
          refine Pv.iload rfl rfl ?_
          refine Pv.icmp rfl (fun c16 => ?_) (fun c16 => ?_)
          · skip
            replace c16 := (i_lt (a := st) (b := v) (by omega) (by omega)).mp (of_decide_eq_true c16)
            refine Pv.lit rfl ?_
            exact Pv.ret rfl (by rw [hQ]; exact ⟨by unfold c_without; rw [aGS_t hg hs, hn]; dsimp only; rw [hd]; dsimp only; rw [if_neg (Int32.not_lt.mpr c11), hst, show st + 1 = v by omega, hb]; rfl, x5⟩)
          · skip
            replace c16 := mt (i_lt (a := st) (b := v) (by omega) (by omega)).mpr (of_decide_eq_false c16)
            refine Pv.aload rfl rfl ?_
            refine Pv.iload rfl rfl ?_
            refine Pv.iload rfl rfl ?_
            refine Pv.iload rfl rfl ?_
            refine Pv.iload rfl rfl ?_
            refine Pv.callVI (as := [.ref 0, .int (Int32.ofNat g), .int (Int32.ofNat s), .int (Int32.ofNat v), .int (Int32.ofNat (w_dn S d))]) (rest := []) (z := (w_s T S g s v (w_dn S d)).2.2) rfl rfl rfl (o_wouldCome (g := g) (s := s) (n := w_dn S d) (w := v) hx9 hx10 hx7 hx8 hr6 hgl hsl hwd) ?_
            refine Pv.iload rfl rfl ?_
            refine Pv.icmp rfl (fun c17 => ?_) (fun c17 => ?_)
            · skip
              replace c17 := of_decide_eq_true c17
              refine Pv.iinc (y := Int32.ofNat (v + 1)) (lo' := [some (.ref 0), some (.int (Int32.ofNat g)), some (.int (Int32.ofNat s)), some (.int (Int32.ofNat n)), some (.int (Int32.ofNat d)), some (.int (Int32.ofNat (w_dn S d))), some (.int (Int32.ofNat st)), some (.int (Int32.ofNat (v + 1)))]) rfl rfl (i_add v 1) rfl ?_
              refine Pv.goto rfl ?_
              exact ih15 (v + 1) (⟨by omega, m_fst_n hb (by unfold pWc; rw [decide_eq_true c17]; rfl)⟩)
            · skip
              replace c17 := of_decide_eq_false c17
              refine Pv.iload rfl rfl ?_
              exact Pv.ret rfl (by rw [hQ]; exact ⟨by unfold c_without; rw [aGS_t hg hs, hn]; dsimp only; rw [hd]; dsimp only; rw [if_neg (Int32.not_lt.mpr c11), hst, m_fst_e hb (by unfold pWc; rw [decide_eq_false c17]; rfl) (by omega)]; rfl, x5⟩)
        · skip
          replace c11 := of_decide_eq_false c11
          refine Pv.lit rfl ?_
          exact Pv.ret rfl (by rw [hQ]; exact ⟨by unfold c_without; rw [aGS_t hg hs, hn]; dsimp only; rw [hd]; dsimp only; rw [if_pos (Int32.not_le.mp c11)], x5⟩)
      · skip
        replace c3 : decide (b2i (decide (1 ≤ w) && decide (w ≤ 60)) = 0) = true := by simpa using c3
        replace c3 := of_decide_eq_true c3
        replace c3 := b2z.mp c3
        refine Pv.lit rfl ?_
        exact Pv.ret rfl (by rw [hQ]; exact ⟨by unfold c_without; rw [aGS_t hg hs, hn]; dsimp only; rw [ndr_f ((ndr_in (a := 1) (b := 60) (by omega) (by omega)).symm.trans c3)], FX.rf⟩)
set_option maxRecDepth 100000 in
set_option maxHeartbeats 4000000 in
theorem q_without {F : FW} {T : St} {S : Sh} (hT : XT F T) (hS : XS F (t_m T) S) (hG : GW F) (hTB : TBB T) (hI : INV T S) (x y z w : Int32) : Pm Z_X11_without [.ref 69, .int x, .int y, .int z, .int w] F (fun r F' => r = some (.int (a_without T S x y z w)) ∧ RDR F F') := by
  refine Pm.of fun N => ?_
  obtain ⟨Q, hQ⟩ : ∃ Q : Option Value → FW → Prop, Q = (fun r F' => r = some (.int (a_without T S x y z w)) ∧ RDR F F') := ⟨_, rfl⟩
  rw [← hQ]
  have b3 := hT.mb
  have b4 := hT.nb
  have b5 := hT.gb
  have b6 := m_from_lt S
  have b7 := hS.db
  have hSB := hI.sb
  refine (show Pv (ab_T (L_X11_without Z_X11_isPlace Z_X11_isIn Z_X11_tries Z_X11_cell Z_X11_goesOn Z_X11_back)) N 0 [some (.ref 69), some (.int x), some (.int y), some (.int z), some (.int w), none, none, none, none, none] [] F Q from ?_)
  refine Pv.aload rfl rfl ?_
  refine Pv.lit rfl ?_
  refine Pv.putI rfl rfl ?_
  refine Pv.aload rfl rfl ?_
  refine Pv.iload rfl rfl ?_
  refine Pv.iload rfl rfl ?_
  refine Pv.callVI (as := [.ref 69, .int x, .int y]) (rest := []) (z := b2i ((nd (t_g T) x).isSome && (nd 2 y).isSome)) rfl rfl rfl (q_isPlace (hT.fx (P := fun q => q = 69) (((FX.rf (P := fun q => q = 69))).fp rfl) (by decide)) (hG.fx (P := fun _ => True) (((FX.rf (P := fun _ => True))).fp trivial)) x y) ?_
  refine Pv.if0 rfl (fun c1 => ?_) (fun c1 => ?_)
  · skip
    replace c1 := of_decide_eq_true c1
    replace c1 := b2z.mp c1
    refine Pv.lit rfl ?_
    exact Pv.ret rfl (by rw [hQ]; exact ⟨by unfold a_without; rw [aGS_f c1], (RDR.rf).fp (Or.inl rfl)⟩)
  · skip
    replace c1 := of_decide_eq_false c1
    replace c1 := b2n.mp c1
    obtain ⟨g, s, hg, hs, hgl, hsl, rfl, rfl⟩ := gs_t c1
    refine Pv.iload rfl rfl ?_
    refine Pv.lit rfl ?_
    refine Pv.lit rfl ?_
    refine Pv.callI (as := [.int z, .int 1, .int 250]) (rest := []) (z := b2i (decide (1 ≤ z) && decide (z ≤ 250))) rfl rfl rfl (q_isIn z 1 250) ?_
    refine Pv.if0 rfl (fun c2 => ?_) (fun c2 => ?_)
    · skip
      replace c2 := of_decide_eq_true c2
      replace c2 := b2z.mp c2
      refine Pv.lit rfl ?_
      exact Pv.ret rfl (by rw [hQ]; exact ⟨by unfold a_without; rw [aGS_t hg hs, ndr_f ((ndr_in (a := 1) (b := 250) (by omega) (by omega)).symm.trans c2)], (RDR.rf).fp (Or.inl rfl)⟩)
    · skip
      replace c2 := of_decide_eq_false c2
      replace c2 := b2n.mp c2
      obtain ⟨n, hn, hna, hnb, rfl⟩ := ndr_t ((ndr_in (a := 1) (b := 250) (by omega) (by omega)).symm.trans c2)
      refine Pv.iload rfl rfl ?_
      refine Pv.lit rfl ?_
      refine Pv.lit rfl ?_
      refine Pv.callI (as := [.int w, .int 1, .int 60]) (rest := []) (z := b2i (decide (1 ≤ w) && decide (w ≤ 60))) rfl rfl rfl (q_isIn w 1 60) ?_
      refine Pv.if0 rfl (fun c3 => ?_) (fun c3 => ?_)
      · skip
        replace c3 : decide (b2i (decide (1 ≤ w) && decide (w ≤ 60)) = 0) = false := by simpa using c3
        replace c3 := of_decide_eq_false c3
        replace c3 := b2n.mp c3
        obtain ⟨d, hd, hda, hdb, rfl⟩ := ndr_t ((ndr_in (a := 1) (b := 60) (by omega) (by omega)).symm.trans c3)
        refine Pv.aload rfl rfl ?_
        refine Pv.callV (as := [.ref 69]) (rest := []) rfl rfl rfl (g_tries (hG.fx (P := fun _ => True) (((FX.rf (P := fun _ => True))).fp trivial))) ?_
        rintro _ G4 ⟨rfl, x5, y6⟩
        have rt7 := RT.of ((RDR.rf).fp (Or.inl rfl)) x5 y6
        have hs8 := RT.ofS ((RDR.rf).fp (Or.inl rfl)) x5 b3 hS
        have hr0 := RDR.t78 ((RDR.rf).fp (Or.inl rfl)) x5
        have hx9 := RT.T rt7 hT
        have hx10 := RT.G rt7 hG
        refine (show Pv _ _ 42 [some (.ref 69), some (.int (Int32.ofNat g)), some (.int (Int32.ofNat s)), some (.int (Int32.ofNat n)), some (.int (Int32.ofNat d)), none, none, none, none, none] [] G4 Q from ?_)
        refine Pv.iload rfl rfl ?_
        refine Pv.iload rfl rfl ?_
        refine Pv.callI (as := [.int (Int32.ofNat g), .int (Int32.ofNat s)]) (rest := []) (z := Int32.ofNat (2 * g + s)) rfl rfl rfl (g_cell (g := g) (s := s)) ?_
        refine Pv.istore (lo' := [some (.ref 69), some (.int (Int32.ofNat g)), some (.int (Int32.ofNat s)), some (.int (Int32.ofNat n)), some (.int (Int32.ofNat d)), some (.int (Int32.ofNat (2 * g + s))), none, none, none, none]) rfl rfl ?_
        refine Pv.aload rfl rfl ?_
        refine Pv.getR (v := .ref 71) rfl rfl (GW.at (a := 69) (k := 6) (b := 71) hx10 (by decide)) ?_
        refine Pv.lit rfl ?_
        refine Pv.iload rfl rfl ?_
        refine Pv.bin (z := Int32.ofNat (160 + (2 * g + s))) rfl (i_add 160 (2 * g + s)) ?_
        refine Pv.ald (z := h_c S (2 * g + s)) rfl (by rw [i_toNat (by omega)]; exact hs8.c _ (by omega)) ?_
        refine Pv.istore (lo' := [some (.ref 69), some (.int (Int32.ofNat g)), some (.int (Int32.ofNat s)), some (.int (Int32.ofNat n)), some (.int (Int32.ofNat d)), some (.int (Int32.ofNat (2 * g + s))), some (.int (h_c S (2 * g + s))), none, none, none]) rfl rfl ?_
        refine Pv.aload rfl rfl ?_
        refine Pv.getR (v := .ref 71) rfl rfl (GW.at (a := 69) (k := 6) (b := 71) hx10 (by decide)) ?_
        refine Pv.lit rfl ?_
        refine Pv.iload rfl rfl ?_
        refine Pv.bin (z := Int32.ofNat (124 + (2 * g + s))) rfl (i_add 124 (2 * g + s)) ?_
        refine Pv.ald (z := h_s S (2 * g + s)) rfl (by rw [i_toNat (by omega)]; exact hs8.s _ (by omega)) ?_
        obtain ⟨st, hst, est, stb⟩ := nat_of (hI.sb (2 * g + s) (by omega)).1
        have stc : st ≤ 999 := by have := (hI.sb (2 * g + s) (by omega)).2; omega
        have hst2 : (h_s S (2 * g + s)).toInt = st := by rw [est, i_toInt stb]
        rw [est]
        refine Pv.istore (lo' := [some (.ref 69), some (.int (Int32.ofNat g)), some (.int (Int32.ofNat s)), some (.int (Int32.ofNat n)), some (.int (Int32.ofNat d)), some (.int (Int32.ofNat (2 * g + s))), some (.int (h_c S (2 * g + s))), some (.int (Int32.ofNat st)), none, none]) rfl rfl ?_
        refine Pv.lit rfl ?_
        refine Pv.istore (lo' := [some (.ref 69), some (.int (Int32.ofNat g)), some (.int (Int32.ofNat s)), some (.int (Int32.ofNat n)), some (.int (Int32.ofNat d)), some (.int (Int32.ofNat (2 * g + s))), some (.int (h_c S (2 * g + s))), some (.int (Int32.ofNat st)), some (.int (-1)), none]) rfl rfl ?_
        refine Pv.lit rfl ?_
        refine Pv.istore (lo' := [some (.ref 69), some (.int (Int32.ofNat g)), some (.int (Int32.ofNat s)), some (.int (Int32.ofNat n)), some (.int (Int32.ofNat d)), some (.int (Int32.ofNat (2 * g + s))), some (.int (h_c S (2 * g + s))), some (.int (Int32.ofNat st)), some (.int (-1)), some (.int 0)]) rfl rfl ?_
        refine Pv.lp (ι := Nat × Int32 × FW) (lof := fun ⟨v, w, G⟩ => [some (.ref 69), some (.int (Int32.ofNat g)), some (.int (Int32.ofNat s)), some (.int (Int32.ofNat n)), some (.int (Int32.ofNat d)), some (.int (Int32.ofNat (2 * g + s))), some (.int (h_c S (2 * g + s))), some (.int (Int32.ofNat st)), some (.int w), some (.int (Int32.ofNat v))]) (Ff := fun ⟨v, w, G⟩ => G) (P := fun ⟨v, w, G⟩ => (v ≤ st + 1) ∧ (RT F G) ∧ (XS G (t_m T) S) ∧ (w = oN (m_fst (pWo T S g s n d) v)) ∧ (RDR F G)) ?_ (0, (-1), G4) (⟨Nat.zero_le _, rt7, hs8, rfl, hr0⟩)
        rintro N11 hN12 ⟨v, w, G⟩ hi13 ih14
        refine (show Pv _ _ 80 [some (.ref 69), some (.int (Int32.ofNat g)), some (.int (Int32.ofNat s)), some (.int (Int32.ofNat n)), some (.int (Int32.ofNat d)), some (.int (Int32.ofNat (2 * g + s))), some (.int (h_c S (2 * g + s))), some (.int (Int32.ofNat st)), some (.int w), some (.int (Int32.ofNat v))] [] G Q from ?_)
        obtain ⟨hv, rt, hxs, hw, hr⟩ := hi13
        have hx15 := RT.T rt hT
        have hx16 := RT.G rt hG
        refine Pv.iloadS rfl rfl ?_
        refine Pv.iload rfl rfl ?_
        refine Pv.icmp rfl (fun c17 => ?_) (fun c17 => ?_)
        · skip
          replace c17 := (i_lt (a := st) (b := v) (by omega) (by omega)).mp (of_decide_eq_true c17)
          refine Pv.iload rfl rfl ?_
          exact Pv.ret rfl (by rw [hQ]; exact ⟨by unfold a_without; rw [aGS_t hg hs, hn]; dsimp only; rw [hd]; dsimp only; rw [hst, show st + 1 = v by omega, hw], hr⟩)
        · skip
          replace c17 := mt (i_lt (a := st) (b := v) (by omega) (by omega)).mpr (of_decide_eq_false c17)
          refine Pv.iload rfl rfl ?_
          refine Pv.if0 rfl (fun c18 => ?_) (fun c18 => ?_)
          · skip
            replace c18 := of_decide_eq_true c18
            refine Pv.iload rfl rfl ?_
            exact Pv.ret rfl (by rw [hQ]; exact ⟨by unfold a_without; rw [aGS_t hg hs, hn]; dsimp only; rw [hd]; dsimp only; rw [hst, oN_s (k := v) (n := st + 1) (by omega) (by rw [← hw]; exact Int32.not_lt.mpr c18), hw], hr⟩)
          · skip
            replace c18 := of_decide_eq_false c18
            have hb := oN_n (P := pWo T S g s n d) (v := v) (by omega) (by rw [← hw]; exact Int32.not_le.mp c18)
            refine Pv.aload rfl rfl ?_
            refine Pv.getR (v := .ref 71) rfl rfl (GW.at (a := 69) (k := 6) (b := 71) hx16 (by decide)) ?_
            refine Pv.lit rfl ?_
            refine Pv.iload rfl rfl ?_
            refine Pv.bin (z := Int32.ofNat (124 + (2 * g + s))) rfl (i_add 124 (2 * g + s)) ?_
            refine Pv.dup2 rfl ?_
            refine Pv.ald (z := h_s S (2 * g + s)) rfl (by rw [i_toNat (by omega)]; exact hxs.s _ (by omega)) ?_
            refine Pv.iload rfl rfl ?_
            refine Pv.bin (z := (h_s S (2 * g + s)) - (Int32.ofNat v)) rfl (rfl) ?_
            refine Pv.astk (k := 124 + (2 * g + s)) (z := (h_s S (2 * g + s)) - (Int32.ofNat v)) rfl (i_toNat (by omega)) (rfl) ?_
            obtain ⟨K, hK⟩ : ∃ K, K = (fp G 71 (124 + (2 * g + s)) ((h_s S (2 * g + s)) - (Int32.ofNat v))) := ⟨_, rfl⟩
            rw [← hK]
            have rtK : RT F K := by rw [hK]; exact (RT.st rt (by omega) (by omega))
            have hsK : XS K (t_m T) (m_ws S (2 * g + s) v) := by rw [hK]; exact XS.one hxs b3 (by omega)
            have hx19 := RT.T rtK hT
            have hx20 := RT.G rtK hG
            refine Pv.aload rfl rfl ?_
            refine Pv.iload rfl rfl ?_
            refine Pv.callV (as := [.ref 69, .int (Int32.ofNat d)]) (rest := []) rfl rfl rfl (g_goesOn (n := d) hx19 hsK hx20 hTB (INV.sb (INV_ws hI (by omega) (by omega))) (by omega)) ?_
            rintro _ G21 ⟨rfl, x22, hs23⟩
            have rt24 := RT.rx rtK x22
            have hx25 := RT.T rt24 hT
            have hx26 := RT.G rt24 hG
            have bD27 := XS.db hs23
            refine (show Pv _ _ 113 [some (.ref 69), some (.int (Int32.ofNat g)), some (.int (Int32.ofNat s)), some (.int (Int32.ofNat n)), some (.int (Int32.ofNat d)), some (.int (Int32.ofNat (2 * g + s))), some (.int (h_c S (2 * g + s))), some (.int (Int32.ofNat st)), some (.int w), some (.int (Int32.ofNat v))] [.int (Int32.ofNat (h_d (m_days T (m_ws S (2 * g + s) v) d) - h_d (m_ws S (2 * g + s) v)))] G21 Q from ?_)
            refine Pv.pop rfl ?_
            refine Pv.aload rfl rfl ?_
            refine Pv.getR (v := .ref 71) rfl rfl (GW.at (a := 69) (k := 6) (b := 71) hx26 (by decide)) ?_
            refine Pv.lit rfl ?_
            refine Pv.iload rfl rfl ?_
            refine Pv.bin (z := Int32.ofNat (160 + (2 * g + s))) rfl (i_add 160 (2 * g + s)) ?_
            refine Pv.ald (z := h_c (m_days T (m_ws S (2 * g + s) v) d) (2 * g + s)) rfl (by rw [i_toNat (by omega)]; exact hs23.c _ (by omega)) ?_
            refine Pv.iload rfl rfl ?_
            refine Pv.bin (z := (h_c (m_days T (m_ws S (2 * g + s) v) d) (2 * g + s)) - (h_c S (2 * g + s))) rfl (rfl) ?_
            refine Pv.iload rfl rfl ?_
            refine Pv.icmp rfl (fun c28 => ?_) (fun c28 => ?_)
            · skip
              replace c28 := of_decide_eq_true c28
              refine Pv.aload rfl rfl ?_
              refine Pv.callV (as := [.ref 69]) (rest := []) rfl rfl rfl (g_back hx26) ?_
              rintro _ G29 ⟨rfl, x30, y31, z32⟩
              have rd33 := RT.bk rt24 x30 y31 z32
              have rt34 := RT.bkT rt24 x30 y31 z32
              refine (show Pv _ _ 140 [some (.ref 69), some (.int (Int32.ofNat g)), some (.int (Int32.ofNat s)), some (.int (Int32.ofNat n)), some (.int (Int32.ofNat d)), some (.int (Int32.ofNat (2 * g + s))), some (.int (h_c S (2 * g + s))), some (.int (Int32.ofNat st)), some (.int w), some (.int (Int32.ofNat v))] [] G29 Q from ?_)
              refine Pv.iinc (y := Int32.ofNat (v + 1)) (lo' := [some (.ref 69), some (.int (Int32.ofNat g)), some (.int (Int32.ofNat s)), some (.int (Int32.ofNat n)), some (.int (Int32.ofNat d)), some (.int (Int32.ofNat (2 * g + s))), some (.int (h_c S (2 * g + s))), some (.int (Int32.ofNat st)), some (.int w), some (.int (Int32.ofNat (v + 1)))]) rfl rfl (i_add v 1) rfl ?_
              refine Pv.goto rfl ?_
              exact ih14 (v + 1, w, G29) (⟨by omega, rt34, (RDR.S rd33 b3 hS), by rw [hw, hb, m_fst_n hb (by unfold pWo; rw [decide_eq_true c28]; rfl)], rd33⟩)
            · skip
              replace c28 := of_decide_eq_false c28
              refine Pv.iload rfl rfl ?_
              refine Pv.istore (lo' := [some (.ref 69), some (.int (Int32.ofNat g)), some (.int (Int32.ofNat s)), some (.int (Int32.ofNat n)), some (.int (Int32.ofNat d)), some (.int (Int32.ofNat (2 * g + s))), some (.int (h_c S (2 * g + s))), some (.int (Int32.ofNat st)), some (.int (Int32.ofNat v)), some (.int (Int32.ofNat v))]) rfl rfl ?_
              refine Pv.aload rfl rfl ?_
              refine Pv.callV (as := [.ref 69]) (rest := []) rfl rfl rfl (g_back hx26) ?_
              rintro _ G35 ⟨rfl, x36, y37, z38⟩
              have rd39 := RT.bk rt24 x36 y37 z38
              have rt40 := RT.bkT rt24 x36 y37 z38
              refine (show Pv _ _ 140 [some (.ref 69), some (.int (Int32.ofNat g)), some (.int (Int32.ofNat s)), some (.int (Int32.ofNat n)), some (.int (Int32.ofNat d)), some (.int (Int32.ofNat (2 * g + s))), some (.int (h_c S (2 * g + s))), some (.int (Int32.ofNat st)), some (.int (Int32.ofNat v)), some (.int (Int32.ofNat v))] [] G35 Q from ?_)
              refine Pv.iinc (y := Int32.ofNat (v + 1)) (lo' := [some (.ref 69), some (.int (Int32.ofNat g)), some (.int (Int32.ofNat s)), some (.int (Int32.ofNat n)), some (.int (Int32.ofNat d)), some (.int (Int32.ofNat (2 * g + s))), some (.int (h_c S (2 * g + s))), some (.int (Int32.ofNat st)), some (.int (Int32.ofNat v)), some (.int (Int32.ofNat (v + 1)))]) rfl rfl (i_add v 1) rfl ?_
              refine Pv.goto rfl ?_
              exact ih14 (v + 1, Int32.ofNat v, G35) (⟨by omega, rt40, (RDR.S rd39 b3 hS), by rw [m_fst_e hb (by unfold pWo; rw [decide_eq_false c28]; rfl) (Nat.lt_succ_self v)]; rfl, rd39⟩)
      · skip
        replace c3 : decide (b2i (decide (1 ≤ w) && decide (w ≤ 60)) = 0) = true := by simpa using c3
        replace c3 := of_decide_eq_true c3
        replace c3 := b2z.mp c3
        refine Pv.lit rfl ?_
        exact Pv.ret rfl (by rw [hQ]; exact ⟨by unfold a_without; rw [aGS_t hg hs, hn]; dsimp only; rw [ndr_f ((ndr_in (a := 1) (b := 60) (by omega) (by omega)).symm.trans c3)], (RDR.rf).fp (Or.inl rfl)⟩)
end
-- 63.b71.long.lean.txt
section
/-! ===== longs ===== -/
theorem fl_putl {hp : ab_H} {a c k : Nat} {fs : List Value} {x y : Int64} (e : hp.2 a = .inr (c, fs)) (hy : fs[k]? = some (.long y)) : fl (ab_up hp a (.inr (c, fs.set k (.long x)))) = fpl (fl hp) a k x := by
  have hk : k < fs.length := (List.getElem?_eq_some_iff.mp hy).1
  refine Prod.ext (funext fun p => funext fun j => ?_) (Prod.ext (funext fun p => funext fun j => ?_) (Prod.ext (funext fun p => funext fun j => ?_) (Prod.ext rfl (funext fun p => ?_))))
  · show gi _ p j = gi hp p j
    by_cases h1 : p = a
    · subst h1
      unfold gi
      rw [ab_up_eq, e]
      dsimp only
      by_cases h2 : j = k
      · subst h2
        rw [List.getElem?_set_self hk, hy]
      · rw [List.getElem?_set_ne (Ne.symm h2)]
    · unfold gi
      rw [ab_up_ne h1]
  · show gr _ p j = gr hp p j
    by_cases h1 : p = a
    · subst h1
      unfold gr
      rw [ab_up_eq, e]
      dsimp only
      by_cases h2 : j = k
      · subst h2
        rw [List.getElem?_set_self hk, hy]
      · rw [List.getElem?_set_ne (Ne.symm h2)]
    · unfold gr
      rw [ab_up_ne h1]
  · show gl _ p j = if p = a ∧ j = k then x else gl hp p j
    by_cases h1 : p = a
    · subst h1
      by_cases h2 : j = k
      · subst h2
        rw [if_pos ⟨rfl, rfl⟩]
        unfold gl
        rw [ab_up_eq]
        dsimp only
        rw [List.getElem?_set_self hk]
      · rw [if_neg (fun q => h2 q.2)]
        unfold gl
        rw [ab_up_eq, e]
        dsimp only
        rw [List.getElem?_set_ne (Ne.symm h2)]
    · rw [if_neg (fun q => h1 q.1)]
      unfold gl
      rw [ab_up_ne h1]
  · show gn _ p = gn hp p
    unfold gn
    by_cases h1 : p = a
    · subst h1
      rw [ab_up_eq, e]
    · rw [ab_up_ne h1]
section PVL
variable {T : Nat → Option ab_A} {N i j : Nat} {lo : List (Option Value)} {st : List Value} {F : FW} {Q : Option Value → FW → Prop}
theorem Pv.putL {ci k kd a : Nat} {x : Int64} (hT : T i = some (ab_nx j (ab_putf ci k kd))) (hk : fk ci k = 2) (h : Pv T N j lo st (fpl F a k x) Q) : Pv T N i lo (.long x :: .ref a :: st) F Q :=
  (Pv.nx hT fun u hp s hw hF e => by
    obtain ⟨fs, ha, -, hc, hl, rfl⟩ := v_putf e
    refine ⟨wt_up hw ha hc (Or.inr (by rw [hk]; rfl)), ?_⟩
    show Pv T N j lo st (fl (ab_up hp a (.inr (ci, fs.set k (.long x))))) Q
    have hv : fs[k]? = some fs[k] := List.getElem?_eq_getElem hl
    have hy := (hw a ci fs k _ ha hc hv).resolve_left (by rw [hk]; decide)
    rw [hk] at hy
    cases e2 : fs[k] with
    | long y =>
      rw [e2] at hv
      rw [fl_putl hc hv, hF]
      exact h
    | _ =>
      rw [e2] at hy
      cases hy).w
theorem Pv.lbin {g : Int64 → Int64 → Int64} {x y z : Int64} (hT : T i = some (ab_nx j (ab_lbin g))) (hz : g x y = z) (h : Pv T N j lo (.long z :: st) F Q) : Pv T N i lo (.long y :: .long x :: st) F Q := (Pv.pu hT (fun _ _ _ e => by
  rw [← hz]
  exact (Option.some.inj e).symm) h).w
theorem Pv.lsh {g : Int64 → Int32 → Int64} {x z : Int64} {y : Int32} (hT : T i = some (ab_nx j (ab_lsh g))) (hz : g x y = z) (h : Pv T N j lo (.long z :: st) F Q) : Pv T N i lo (.int y :: .long x :: st) F Q := (Pv.pu hT (fun _ _ _ e => by
  rw [← hz]
  exact (Option.some.inj e).symm) h).w
theorem Pv.lcmp {x y : Int64} {z : Int32} (hT : T i = some (ab_nx j ab_lcmp)) (hz : lg_cmp x y = z) (h : Pv T N j lo (.int z :: st) F Q) : Pv T N i lo (.long y :: .long x :: st) F Q := (Pv.pu hT (fun _ _ _ e => by
  rw [← hz]
  exact (Option.some.inj e).symm) h).w
theorem Pv.i2l {x : Int32} {z : Int64} (hT : T i = some (ab_nx j ab_i2l)) (hz : x.toInt64 = z) (h : Pv T N j lo (.long z :: st) F Q) : Pv T N i lo (.int x :: st) F Q := (Pv.pu hT (fun _ _ _ e => by
  rw [← hz]
  exact (Option.some.inj e).symm) h).w
theorem Pv.l2i {x : Int64} {z : Int32} (hT : T i = some (ab_nx j ab_l2i)) (hz : x.toInt32 = z) (h : Pv T N j lo (.int z :: st) F Q) : Pv T N i lo (.long x :: st) F Q := (Pv.pu hT (fun _ _ _ e => by
  rw [← hz]
  exact (Option.some.inj e).symm) h).w
theorem Pv.lstore {k : Nat} {x : Int64} {lo' : List (Option Value)} (hT : T i = some (ab_nx j (ab_lstore k))) (hl : (lo.set k (some (.long x))).set (k + 1) none = lo') (h : Pv T N j lo' st F Q) : Pv T N i lo (.long x :: st) F Q := (Pv.pu hT (fun u hp s e => by
  unfold ab_lstore at e
  dsimp only at e
  rw [Bool.cond_eq_ite] at e
  split at e
  · rw [← hl]
    exact (Option.some.inj e).symm
  · cases e) h).w
theorem Pv.lastk {a k : Nat} {x : Int32} {y : Int64} (hT : T i = some (ab_nx j ab_last)) (hx : x.toNatClampNeg = k) (h : Pv T N j lo st (fpl F a k y) Q) : Pv T N i lo (.long y :: .int x :: .ref a :: st) F Q := by
  subst hx
  exact Pv.last hT h
end PVL
theorem fpl_eq {F : FW} {a k : Nat} {x : Int64} : (fpl F a k x).2.2.1 a k = x := if_pos ⟨rfl, rfl⟩
theorem fpl_ne {F : FW} {a k p j : Nat} {x : Int64} (h : p ≠ a ∨ j ≠ k) : (fpl F a k x).2.2.1 p j = F.2.2.1 p j := if_neg (fun c => h.elim (fun h => h c.1) (fun h => h c.2))
theorem fcp_l0 {F : FW} {a b n j : Nat} (h : j < n) : (fcp F a b 0 0 n).2.2.1 b j = F.2.2.1 a j := (if_pos (show b = b ∧ 0 ≤ j ∧ j < 0 + n from ⟨rfl, Nat.zero_le _, by omega⟩)).trans (congrArg (F.2.2.1 a) (by omega))
theorem fcp_lne {F : FW} {a b sp dp n p j : Nat} (h : p ≠ b) : (fcp F a b sp dp n).2.2.1 p j = F.2.2.1 p j := if_neg (fun c => h c.1)
theorem FX.fpl {P : Nat → Prop} {F G : FW} {a k : Nat} {x : Int64} (h : FX P F G) (ha : P a) : FX P F (fpl G a k x) := ⟨h.1, fun q j c => (fpl_ne (Or.inl (fun e : q = a => c (by rw [e]; exact ha)))).trans (h.2.1 q j c), h.2.2⟩
/-- equal longs -/
theorem lcmp_0 {x y : Int64} : lg_cmp x y = 0 ↔ x = y := lg_cmp_eq x y
theorem fpl_i {F : FW} {a k p j : Nat} {x : Int64} : (fpl F a k x).1 p j = F.1 p j := rfl
theorem fp_l {F : FW} {a k p j : Nat} {x : Int32} : (fp F a k x).2.2.1 p j = F.2.2.1 p j := rfl
end
-- 63.b72.img.lean.txt
section
/-! ===== names, sentences, images ===== -/
/-- the names that a Strait at p has; nm as the reference spells them: goods from 0, men from 6 on -/
def NMC (F : FW) (p : Nat) (T : St) (nm : Nat → Int) : Prop := (∀ g, g < t_g T → (F.2.2.1 (p + 1) g).toInt = c32 7 (nm g) ∧ LW 7 (nm g)) ∧ ∀ m, m < t_m T → (F.2.2.1 (p + 2) m).toInt = c32 7 (nm (6 + m)) ∧ LW 7 (nm (6 + m))
/-- a sentence: size, ones, is it said; what, shores or signs, numbers -/
abbrev Se : Type := Int32 × Int32 × Int32 × (Nat → Int32) × (Nat → Int32) × (Nat → Int32)
def SE (F : FW) (p : Nat) (Q : Se) : Prop := O3 F p ∧ F.1 p 3 = Q.1 ∧ F.1 p 4 = Q.2.1 ∧ F.1 p 5 = Q.2.2.1 ∧ AR F (p + 1) 40 Q.2.2.2.1 ∧ AR F (p + 2) 40 Q.2.2.2.2.1 ∧ AR F (p + 3) 40 Q.2.2.2.2.2
section SES
variable {F : FW} {p : Nat} {Q : Se}
theorem SE.o (h : SE F p Q) : O3 F p := h.1
theorem SE.z (h : SE F p Q) : F.1 p 3 = Q.1 := h.2.1
theorem SE.n (h : SE F p Q) : F.1 p 4 = Q.2.1 := h.2.2.1
theorem SE.i (h : SE F p Q) : F.1 p 5 = Q.2.2.1 := h.2.2.2.1
theorem SE.a (h : SE F p Q) : AR F (p + 1) 40 Q.2.2.2.1 := h.2.2.2.2.1
theorem SE.f (h : SE F p Q) : AR F (p + 2) 40 Q.2.2.2.2.1 := h.2.2.2.2.2.1
theorem SE.m (h : SE F p Q) : AR F (p + 3) 40 Q.2.2.2.2.2 := h.2.2.2.2.2.2
end SES
/-- all but places of P is as it was; there may be more places -/
def FRZ (P : Nat → Prop) (F G : FW) : Prop := F.2.2.2.1 ≤ G.2.2.2.1 ∧ ∀ a, a < F.2.2.2.1 → ¬ P a → (∀ k, G.1 a k = F.1 a k) ∧ (∀ k, G.2.1 a k = F.2.1 a k) ∧ ∀ k, G.2.2.1 a k = F.2.2.1 a k
theorem FRZ.rf {P : Nat → Prop} {F : FW} : FRZ P F F := ⟨Nat.le_refl _, fun _ _ _ => ⟨fun _ => rfl, fun _ => rfl, fun _ => rfl⟩⟩
theorem FRZ.tr {P : Nat → Prop} {F G K : FW} (h : FRZ P F G) (x : FRZ P G K) : FRZ P F K := ⟨Nat.le_trans h.1 x.1, fun a ha c => by
  have p := h.2 a ha c
  have q := x.2 a (Nat.lt_of_lt_of_le ha h.1) c
  exact ⟨fun k => (q.1 k).trans (p.1 k), fun k => (q.2.1 k).trans (p.2.1 k), fun k => (q.2.2 k).trans (p.2.2 k)⟩⟩
theorem FRZ.wd {P R : Nat → Prop} {F G : FW} (h : FRZ P F G) (w : ∀ a, a < F.2.2.2.1 → P a → R a) : FRZ R F G := ⟨h.1, fun a ha c => h.2 a ha (fun p => c (w a ha p))⟩
theorem FX.frz {P : Nat → Prop} {F G : FW} (x : FX P F G) : FRZ P F G := ⟨by rw [x.2.2.2]; exact Nat.le_refl _, fun a _ c => ⟨fun k => x.1 a k c, fun k => by rw [x.2.2.1], fun k => x.2.1 a k c⟩⟩
theorem NWF.frz {p n : Nat} {F G : FW} (w : NWF p n F G) : FRZ (fun q => q = p) F G := ⟨by rw [w.1]; omega, fun a ha c => by
  obtain ⟨h1, h2, h3, -⟩ := w.2 a ha c
  exact ⟨h1, h2, h3⟩⟩
theorem KF.frz {P : Nat → Prop} {F G : FW} (h : KF P F G) : FRZ (fun q => P q ∨ q = 10 ∨ q = 11 ∨ SLT F q) F G := ⟨h.1, fun a ha c => by
  have q := h.2.2.1 a ha (fun e => c (Or.inr (Or.inl e))) (fun e => c (Or.inr (Or.inr (Or.inl e)))) (fun e => c (Or.inr (Or.inr (Or.inr e))))
  exact ⟨fun k => q.1 k (fun e => c (Or.inl e)), q.2.1, fun k => q.2.2 k (fun e => c (Or.inl e))⟩⟩
theorem fnw_frz {P : Nat → Prop} {F : FW} {n : Nat} : FRZ P F (fnw F n) := ⟨Nat.le_succ _, fun a ha _ => ⟨fun _ => if_neg (by omega), fun _ => if_neg (by omega), fun _ => if_neg (by omega)⟩⟩
theorem fpr_frz {P : Nat → Prop} {F : FW} {a k : Nat} {v : Value} (h : P a) : FRZ P F (fpr F a k v) := ⟨Nat.le_refl _, fun q _ c => ⟨fun _ => rfl, fun j => fpr_ne (Or.inl (fun e => c (by rw [e]; exact h))), fun _ => rfl⟩⟩
theorem FRZ.fx {P R : Nat → Prop} {F G K : FW} (h : FRZ P F G) (x : FX R G K) (w : ∀ a, a < F.2.2.2.1 → R a → P a) : FRZ P F K := ⟨by rw [x.2.2.2]; exact h.1, fun a ha c => by
  have p := h.2 a ha c
  have n : ¬ R a := fun r => c (w a ha r)
  exact ⟨fun k => (x.1 a k n).trans (p.1 k), fun k => by rw [x.2.2.1]; exact p.2.1 k, fun k => (x.2.1 a k n).trans (p.2.2 k)⟩⟩
theorem wires_41 : ∀ x ∈ wires, x.1 ≠ 41 := by decide
theorem AR.frz {P : Nat → Prop} {F G : FW} {a n : Nat} {f : Nat → Int32} (h : AR F a n f) (x : FRZ P F G) (ha : a < F.2.2.2.1) (c : ¬ P a) : AR G a n f := fun j hj => ((x.2 a ha c).1 j).trans (h j hj)
theorem TR.frz {P : Nat → Prop} {F G : FW} {t : Nat} {T : St} (h : TR F t T) (x : FRZ P F G) (hz : t + 8 ≤ F.2.2.2.1) (c : ∀ a, t ≤ a → a ≤ t + 7 → ¬ P a) : TR G t T := by
  have e := fun a h1 h2 => x.2 a (by omega) (c a h1 h2)
  exact ⟨fun j hj => ((e t (by omega) (by omega)).2.1 j).trans (h.o j hj), h.w, ((e t (by omega) (by omega)).1 _).trans h.l, ((e t (by omega) (by omega)).1 _).trans h.g, ((e t (by omega) (by omega)).1 _).trans h.m, ((e t (by omega) (by omega)).1 _).trans h.n,
    h.a.frz x (by omega) (c _ (by omega) (by omega)), h.r.frz x (by omega) (c _ (by omega) (by omega)), h.d.frz x (by omega) (c _ (by omega) (by omega)), h.dd.frz x (by omega) (c _ (by omega) (by omega)), h.f.frz x (by omega) (c _ (by omega) (by omega))⟩
theorem SHR.frz {P : Nat → Prop} {F G : FW} {p m : Nat} {S : Sh} (h : SHR F p m S) (x : FRZ P F G) (hz : p + 8 ≤ F.2.2.2.1) (c : ∀ a, p ≤ a → a ≤ p + 7 → ¬ P a) : SHR G p m S :=
  h.sm (fun a k h1 h2 => (x.2 a (by omega) (c a h1 h2)).1 k) (fun k => (x.2 p (by omega) (c p (by omega) (by omega))).2.1 k)
theorem NMC.frz {P : Nat → Prop} {F G : FW} {p : Nat} {T : St} {nm : Nat → Int} (h : NMC F p T nm) (x : FRZ P F G) (hz : p + 3 ≤ F.2.2.2.1) (c1 : ¬ P (p + 1)) (c2 : ¬ P (p + 2)) : NMC G p T nm :=
  ⟨fun g hg => by rw [(x.2 (p + 1) (by omega) c1).2.2 g]; exact h.1 g hg, fun m hm => by rw [(x.2 (p + 2) (by omega) c2).2.2 m]; exact h.2 m hm⟩
theorem SE.frz {P : Nat → Prop} {F G : FW} {p : Nat} {Q : Se} (h : SE F p Q) (x : FRZ P F G) (hz : p + 4 ≤ F.2.2.2.1) (c : ∀ a, p ≤ a → a ≤ p + 3 → ¬ P a) : SE G p Q := by
  have e := fun a h1 h2 => x.2 a (by omega) (c a h1 h2)
  exact ⟨fun j hj => ((e p (by omega) (by omega)).2.1 j).trans (h.o j hj), ((e p (by omega) (by omega)).1 _).trans h.z, ((e p (by omega) (by omega)).1 _).trans h.n, ((e p (by omega) (by omega)).1 _).trans h.i, h.a.frz x (by omega) (c _ (by omega) (by omega)), h.f.frz x (by omega) (c _ (by omega) (by omega)), h.m.frz x (by omega) (c _ (by omega) (by omega))⟩
theorem GW.frz {P : Nat → Prop} {F G : FW} (h : GW F) (x : FRZ P F G) (h88 : 88 ≤ F.2.2.2.1) (c : ∀ y ∈ wires, ¬ P y.1) : GW G := fun y my => ((x.2 y.1 (by have := (wires_lt y my).2; omega) (c y my)).2.1 _).trans (h y my)
def O3i (F : FW) (v : Nat) : Prop := F.2.1 v 0 = .ref (v + 1) ∧ F.2.1 v 1 = .ref (v + 9) ∧ F.2.1 v 2 = .ref (v + 17)
/-- what an image holds -/
abbrev Im : Type := St × (Nat → Int) × Sh × Se
def IMV (F : FW) (k v : Nat) (I : Im) : Prop := F.2.1 41 k = .ref v ∧ 88 ≤ v ∧ v + 21 ≤ F.2.2.2.1 ∧ O3i F v ∧ TR F (v + 1) I.1 ∧ NMC F (v + 1) I.1 I.2.1 ∧ SHR F (v + 9) (t_m I.1) I.2.2.1 ∧ SE F (v + 17) I.2.2.2 ∧ ∀ a, v ≤ a → a ≤ v + 20 → ¬ SLT F a
end
-- 63.b72a.lean.txt
section
set_option maxRecDepth 100000 in
set_option maxHeartbeats 4000000 in
theorem f_stCopy {F : FW} {p r : Nat} {T : St} {nm : Nat → Int} (hp : O7 F p) (hT : TR F r T) (hN : NMC F r T nm) (hd : p + 7 < r ∨ r + 7 < p) : Pm Z_X7_copyFrom [.ref p, .ref r] F (fun r' F' => r' = none ∧ FX (fun q => p ≤ q ∧ q ≤ p + 7) F F' ∧ TR F' p T ∧ NMC F' p T nm) := by
  refine Pm.of fun N => ?_
  obtain ⟨Q, hQ⟩ : ∃ Q : Option Value → FW → Prop, Q = (fun r' F' => r' = none ∧ FX (fun q => p ≤ q ∧ q ≤ p + 7) F F' ∧ TR F' p T ∧ NMC F' p T nm) := ⟨_, rfl⟩
  rw [← hQ]
  have b3 := hT.mb
  have b4 := hT.nb
  have b5 := hT.gb
  refine (show Pv (ab_T L_X7_copyFrom) N 0 [some (.ref p), some (.ref r)] [] F Q from ?_)
  refine Pv.aload rfl rfl ?_
  refine Pv.getR (v := .ref (r + 1)) rfl rfl (hT.o 0 (by decide)) ?_
  refine Pv.lit rfl ?_
  refine Pv.aload rfl rfl ?_
  refine Pv.getR (v := .ref (p + 1)) rfl rfl (hp 0 (by decide)) ?_
  refine Pv.lit rfl ?_
  refine Pv.lit rfl ?_
  refine Pv.copy rfl ?_
  refine (show Pv _ _ 15 [some (.ref p), some (.ref r)] [] (fcp F (r + 1) (p + 1) 0 0 6) Q from ?_)
  refine Pv.aload rfl rfl ?_
  refine Pv.getR (v := .ref (r + 2)) rfl rfl (hT.o 1 (by decide)) ?_
  refine Pv.lit rfl ?_
  refine Pv.aload rfl rfl ?_
  refine Pv.getR (v := .ref (p + 2)) rfl rfl (hp 1 (by decide)) ?_
  refine Pv.lit rfl ?_
  refine Pv.lit rfl ?_
  refine Pv.copy rfl ?_
  refine (show Pv _ _ 30 [some (.ref p), some (.ref r)] [] (fcp (fcp F (r + 1) (p + 1) 0 0 6) (r + 2) (p + 2) 0 0 8) Q from ?_)
  refine Pv.aload rfl rfl ?_
  refine Pv.getR (v := .ref (r + 3)) rfl rfl (hT.o 2 (by decide)) ?_
  refine Pv.lit rfl ?_
  refine Pv.aload rfl rfl ?_
  refine Pv.getR (v := .ref (p + 3)) rfl rfl (hp 2 (by decide)) ?_
  refine Pv.lit rfl ?_
  refine Pv.lit rfl ?_
  refine Pv.copy rfl ?_
  refine (show Pv _ _ 45 [some (.ref p), some (.ref r)] [] (fcp (fcp (fcp F (r + 1) (p + 1) 0 0 6) (r + 2) (p + 2) 0 0 8) (r + 3) (p + 3) 0 0 8) Q from ?_)
  refine Pv.aload rfl rfl ?_
  refine Pv.getR (v := .ref (r + 4)) rfl rfl (hT.o 3 (by decide)) ?_
  refine Pv.lit rfl ?_
  refine Pv.aload rfl rfl ?_
  refine Pv.getR (v := .ref (p + 4)) rfl rfl (hp 3 (by decide)) ?_
  refine Pv.lit rfl ?_
  refine Pv.lit rfl ?_
  refine Pv.copy rfl ?_
  refine (show Pv _ _ 60 [some (.ref p), some (.ref r)] [] (fcp (fcp (fcp (fcp F (r + 1) (p + 1) 0 0 6) (r + 2) (p + 2) 0 0 8) (r + 3) (p + 3) 0 0 8) (r + 4) (p + 4) 0 0 48) Q from ?_)
  refine Pv.aload rfl rfl ?_
  refine Pv.getR (v := .ref (r + 5)) rfl rfl (hT.o 4 (by decide)) ?_
  refine Pv.lit rfl ?_
  refine Pv.aload rfl rfl ?_
  refine Pv.getR (v := .ref (p + 5)) rfl rfl (hp 4 (by decide)) ?_
  refine Pv.lit rfl ?_
  refine Pv.lit rfl ?_
  refine Pv.copy rfl ?_
  refine (show Pv _ _ 75 [some (.ref p), some (.ref r)] [] (fcp (fcp (fcp (fcp (fcp F (r + 1) (p + 1) 0 0 6) (r + 2) (p + 2) 0 0 8) (r + 3) (p + 3) 0 0 8) (r + 4) (p + 4) 0 0 48) (r + 5) (p + 5) 0 0 20) Q from ?_)
  refine Pv.aload rfl rfl ?_
  refine Pv.getR (v := .ref (r + 6)) rfl rfl (hT.o 5 (by decide)) ?_
  refine Pv.lit rfl ?_
  refine Pv.aload rfl rfl ?_
  refine Pv.getR (v := .ref (p + 6)) rfl rfl (hp 5 (by decide)) ?_
  refine Pv.lit rfl ?_
  refine Pv.lit rfl ?_
  refine Pv.copy rfl ?_
  refine (show Pv _ _ 90 [some (.ref p), some (.ref r)] [] (fcp (fcp (fcp (fcp (fcp (fcp F (r + 1) (p + 1) 0 0 6) (r + 2) (p + 2) 0 0 8) (r + 3) (p + 3) 0 0 8) (r + 4) (p + 4) 0 0 48) (r + 5) (p + 5) 0 0 20) (r + 6) (p + 6) 0 0 20) Q from ?_)
  refine Pv.aload rfl rfl ?_
  refine Pv.getR (v := .ref (r + 7)) rfl rfl (hT.o 6 (by decide)) ?_
  refine Pv.lit rfl ?_
  refine Pv.aload rfl rfl ?_
  refine Pv.getR (v := .ref (p + 7)) rfl rfl (hp 6 (by decide)) ?_
  refine Pv.lit rfl ?_
  refine Pv.lit rfl ?_
  refine Pv.copy rfl ?_
  refine (show Pv _ _ 105 [some (.ref p), some (.ref r)] [] (fcp (fcp (fcp (fcp (fcp (fcp (fcp F (r + 1) (p + 1) 0 0 6) (r + 2) (p + 2) 0 0 8) (r + 3) (p + 3) 0 0 8) (r + 4) (p + 4) 0 0 48) (r + 5) (p + 5) 0 0 20) (r + 6) (p + 6) 0 0 20) (r + 7) (p + 7) 0 0 20) Q from ?_)
  refine Pv.aload rfl rfl ?_
  refine Pv.aload rfl rfl ?_
  refine Pv.getI (z := t_l T) rfl rfl ((fcp_ne (by omega)).trans ((fcp_ne (by omega)).trans ((fcp_ne (by omega)).trans ((fcp_ne (by omega)).trans ((fcp_ne (by omega)).trans ((fcp_ne (by omega)).trans ((fcp_ne (by omega)).trans (hT.l)))))))) ?_
  refine Pv.putI rfl rfl ?_
  refine Pv.aload rfl rfl ?_
  refine Pv.aload rfl rfl ?_
  refine Pv.getI (z := Int32.ofNat (t_g T)) rfl rfl ((fp_ne (Or.inl (by omega))).trans ((fcp_ne (by omega)).trans ((fcp_ne (by omega)).trans ((fcp_ne (by omega)).trans ((fcp_ne (by omega)).trans ((fcp_ne (by omega)).trans ((fcp_ne (by omega)).trans ((fcp_ne (by omega)).trans (hT.g))))))))) ?_
  refine Pv.putI rfl rfl ?_
  refine Pv.aload rfl rfl ?_
  refine Pv.aload rfl rfl ?_
  refine Pv.getI (z := Int32.ofNat (t_m T)) rfl rfl ((fp_ne (Or.inl (by omega))).trans ((fp_ne (Or.inl (by omega))).trans ((fcp_ne (by omega)).trans ((fcp_ne (by omega)).trans ((fcp_ne (by omega)).trans ((fcp_ne (by omega)).trans ((fcp_ne (by omega)).trans ((fcp_ne (by omega)).trans ((fcp_ne (by omega)).trans (hT.m)))))))))) ?_
  refine Pv.putI rfl rfl ?_
  refine Pv.aload rfl rfl ?_
  refine Pv.aload rfl rfl ?_
  refine Pv.getI (z := Int32.ofNat (t_n T)) rfl rfl ((fp_ne (Or.inl (by omega))).trans ((fp_ne (Or.inl (by omega))).trans ((fp_ne (Or.inl (by omega))).trans ((fcp_ne (by omega)).trans ((fcp_ne (by omega)).trans ((fcp_ne (by omega)).trans ((fcp_ne (by omega)).trans ((fcp_ne (by omega)).trans ((fcp_ne (by omega)).trans ((fcp_ne (by omega)).trans (hT.n))))))))))) ?_
  refine Pv.putI rfl rfl ?_
  exact Pv.vret rfl (by rw [hQ]; exact ⟨rfl, ((((((((((((FX.rf (P := fun q => p ≤ q ∧ q ≤ p + 7))).fcp (show p ≤ (p + 1) ∧ (p + 1) ≤ p + 7 by omega)).fcp (show p ≤ (p + 2) ∧ (p + 2) ≤ p + 7 by omega)).fcp (show p ≤ (p + 3) ∧ (p + 3) ≤ p + 7 by omega)).fcp (show p ≤ (p + 4) ∧ (p + 4) ≤ p + 7 by omega)).fcp (show p ≤ (p + 5) ∧ (p + 5) ≤ p + 7 by omega)).fcp (show p ≤ (p + 6) ∧ (p + 6) ≤ p + 7 by omega)).fcp (show p ≤ (p + 7) ∧ (p + 7) ≤ p + 7 by omega)).fp (show p ≤ p ∧ p ≤ p + 7 by omega)).fp (show p ≤ p ∧ p ≤ p + 7 by omega)).fp (show p ≤ p ∧ p ≤ p + 7 by omega)).fp (show p ≤ p ∧ p ≤ p + 7 by omega), ⟨hp, hT.w, (fp_ne (Or.inr (by decide))).trans ((fp_ne (Or.inr (by decide))).trans ((fp_ne (Or.inr (by decide))).trans (fp_eq))), (fp_ne (Or.inr (by decide))).trans ((fp_ne (Or.inr (by decide))).trans (fp_eq)), (fp_ne (Or.inr (by decide))).trans (fp_eq), fp_eq, (((((((((((hT.a).cn (by omega)).cn (by omega)).cn (by omega)).cp (by omega)).cn (by omega)).cn (by omega)).cn (by omega)).ne (by omega)).ne (by omega)).ne (by omega)).ne (by omega), (((((((((((hT.r).cn (by omega)).cn (by omega)).cn (by omega)).cn (by omega)).cp (by omega)).cn (by omega)).cn (by omega)).ne (by omega)).ne (by omega)).ne (by omega)).ne (by omega), (((((((((((hT.d).cn (by omega)).cn (by omega)).cn (by omega)).cn (by omega)).cn (by omega)).cp (by omega)).cn (by omega)).ne (by omega)).ne (by omega)).ne (by omega)).ne (by omega), (((((((((((hT.dd).cn (by omega)).cn (by omega)).cn (by omega)).cn (by omega)).cn (by omega)).cn (by omega)).cp (by omega)).ne (by omega)).ne (by omega)).ne (by omega)).ne (by omega), (((((((((((hT.f).cn (by omega)).cn (by omega)).cp (by omega)).cn (by omega)).cn (by omega)).cn (by omega)).cn (by omega)).ne (by omega)).ne (by omega)).ne (by omega)).ne (by omega)⟩, fun g hg => by rw [show ((fp (fp (fp (fp (fcp (fcp (fcp (fcp (fcp (fcp (fcp F (r + 1) (p + 1) 0 0 6) (r + 2) (p + 2) 0 0 8) (r + 3) (p + 3) 0 0 8) (r + 4) (p + 4) 0 0 48) (r + 5) (p + 5) 0 0 20) (r + 6) (p + 6) 0 0 20) (r + 7) (p + 7) 0 0 20) p 7 (t_l T)) p 8 (Int32.ofNat (t_g T))) p 9 (Int32.ofNat (t_m T))) p 10 (Int32.ofNat (t_n T)))).2.2.1 (p + 1) g = F.2.2.1 (r + 1) g from (fp_l).trans ((fp_l).trans ((fp_l).trans ((fp_l).trans ((fcp_lne (by omega)).trans ((fcp_lne (by omega)).trans ((fcp_lne (by omega)).trans ((fcp_lne (by omega)).trans ((fcp_lne (by omega)).trans ((fcp_lne (by omega)).trans (fcp_l0 (by omega)))))))))))]; exact hN.1 g hg, fun g hg => by rw [show ((fp (fp (fp (fp (fcp (fcp (fcp (fcp (fcp (fcp (fcp F (r + 1) (p + 1) 0 0 6) (r + 2) (p + 2) 0 0 8) (r + 3) (p + 3) 0 0 8) (r + 4) (p + 4) 0 0 48) (r + 5) (p + 5) 0 0 20) (r + 6) (p + 6) 0 0 20) (r + 7) (p + 7) 0 0 20) p 7 (t_l T)) p 8 (Int32.ofNat (t_g T))) p 9 (Int32.ofNat (t_m T))) p 10 (Int32.ofNat (t_n T)))).2.2.1 (p + 2) g = F.2.2.1 (r + 2) g from (fp_l).trans ((fp_l).trans ((fp_l).trans ((fp_l).trans ((fcp_lne (by omega)).trans ((fcp_lne (by omega)).trans ((fcp_lne (by omega)).trans ((fcp_lne (by omega)).trans ((fcp_lne (by omega)).trans ((fcp_l0 (by omega)).trans (fcp_lne (by omega)))))))))))]; exact hN.2 g hg⟩)
set_option maxRecDepth 100000 in
set_option maxHeartbeats 4000000 in
theorem f_seCopy {F : FW} {p r : Nat} {E : Se} (hp : O3 F p) (hS : SE F r E) (hd : p + 3 < r ∨ r + 3 < p) : Pm Z_X5_copyFrom [.ref p, .ref r] F (fun r' F' => r' = none ∧ FX (fun q => p ≤ q ∧ q ≤ p + 3) F F' ∧ SE F' p E) := by
  refine Pm.of fun N => ?_
  obtain ⟨Q, hQ⟩ : ∃ Q : Option Value → FW → Prop, Q = (fun r' F' => r' = none ∧ FX (fun q => p ≤ q ∧ q ≤ p + 3) F F' ∧ SE F' p E) := ⟨_, rfl⟩
  rw [← hQ]
  refine (show Pv (ab_T L_X5_copyFrom) N 0 [some (.ref p), some (.ref r)] [] F Q from ?_)
  refine Pv.aload rfl rfl ?_
  refine Pv.getR (v := .ref (r + 1)) rfl rfl (hS.o 0 (by decide)) ?_
  refine Pv.lit rfl ?_
  refine Pv.aload rfl rfl ?_
  refine Pv.getR (v := .ref (p + 1)) rfl rfl (hp 0 (by decide)) ?_
  refine Pv.lit rfl ?_
  refine Pv.lit rfl ?_
  refine Pv.copy rfl ?_
  refine (show Pv _ _ 15 [some (.ref p), some (.ref r)] [] (fcp F (r + 1) (p + 1) 0 0 40) Q from ?_)
  refine Pv.aload rfl rfl ?_
  refine Pv.getR (v := .ref (r + 2)) rfl rfl (hS.o 1 (by decide)) ?_
  refine Pv.lit rfl ?_
  refine Pv.aload rfl rfl ?_
  refine Pv.getR (v := .ref (p + 2)) rfl rfl (hp 1 (by decide)) ?_
  refine Pv.lit rfl ?_
  refine Pv.lit rfl ?_
  refine Pv.copy rfl ?_
  refine (show Pv _ _ 30 [some (.ref p), some (.ref r)] [] (fcp (fcp F (r + 1) (p + 1) 0 0 40) (r + 2) (p + 2) 0 0 40) Q from ?_)
  refine Pv.aload rfl rfl ?_
  refine Pv.getR (v := .ref (r + 3)) rfl rfl (hS.o 2 (by decide)) ?_
  refine Pv.lit rfl ?_
  refine Pv.aload rfl rfl ?_
  refine Pv.getR (v := .ref (p + 3)) rfl rfl (hp 2 (by decide)) ?_
  refine Pv.lit rfl ?_
  refine Pv.lit rfl ?_
  refine Pv.copy rfl ?_
  refine (show Pv _ _ 45 [some (.ref p), some (.ref r)] [] (fcp (fcp (fcp F (r + 1) (p + 1) 0 0 40) (r + 2) (p + 2) 0 0 40) (r + 3) (p + 3) 0 0 40) Q from ?_)
  refine Pv.aload rfl rfl ?_
  refine Pv.aload rfl rfl ?_
  refine Pv.getI (z := E.1) rfl rfl ((fcp_ne (by omega)).trans ((fcp_ne (by omega)).trans ((fcp_ne (by omega)).trans (hS.z)))) ?_
  refine Pv.putI rfl rfl ?_
  refine Pv.aload rfl rfl ?_
  refine Pv.aload rfl rfl ?_
  refine Pv.getI (z := E.2.1) rfl rfl ((fp_ne (Or.inl (by omega))).trans ((fcp_ne (by omega)).trans ((fcp_ne (by omega)).trans ((fcp_ne (by omega)).trans (hS.n))))) ?_
  refine Pv.putI rfl rfl ?_
  refine Pv.aload rfl rfl ?_
  refine Pv.aload rfl rfl ?_
  refine Pv.getI (z := E.2.2.1) rfl rfl ((fp_ne (Or.inl (by omega))).trans ((fp_ne (Or.inl (by omega))).trans ((fcp_ne (by omega)).trans ((fcp_ne (by omega)).trans ((fcp_ne (by omega)).trans (hS.i)))))) ?_
  refine Pv.putI rfl rfl ?_
  exact Pv.vret rfl (by rw [hQ]; exact ⟨rfl, (((((((FX.rf (P := fun q => p ≤ q ∧ q ≤ p + 3))).fcp (show p ≤ (p + 1) ∧ (p + 1) ≤ p + 3 by omega)).fcp (show p ≤ (p + 2) ∧ (p + 2) ≤ p + 3 by omega)).fcp (show p ≤ (p + 3) ∧ (p + 3) ≤ p + 3 by omega)).fp (show p ≤ p ∧ p ≤ p + 3 by omega)).fp (show p ≤ p ∧ p ≤ p + 3 by omega)).fp (show p ≤ p ∧ p ≤ p + 3 by omega), hp, (fp_ne (Or.inr (by decide))).trans ((fp_ne (Or.inr (by decide))).trans (fp_eq)), (fp_ne (Or.inr (by decide))).trans (fp_eq), fp_eq, ((((((hS.a).cp (by omega)).cn (by omega)).cn (by omega)).ne (by omega)).ne (by omega)).ne (by omega), ((((((hS.f).cn (by omega)).cp (by omega)).cn (by omega)).ne (by omega)).ne (by omega)).ne (by omega), ((((((hS.m).cn (by omega)).cn (by omega)).cp (by omega)).ne (by omega)).ne (by omega)).ne (by omega)⟩)
end
-- 63.b73.x3.lean.txt
section
/-! ===== a new image ===== -/
set_option maxRecDepth 100000 in
set_option maxHeartbeats 4000000 in
theorem f_x3_init {F : FW} {p : Nat} (hz : F.2.2.2.1 = p + 1) : Pm Z_X3_init [.ref p] F (fun r F' => r = none ∧ FRZ (fun q => q = p) F F' ∧ F'.2.2.2.1 = p + 21 ∧ O3i F' p ∧ O7 F' (p + 1) ∧ O7 F' (p + 9) ∧ O3 F' (p + 17)) := by
  refine Pm.of fun N => ?_
  obtain ⟨Q, hQ⟩ : ∃ Q : Option Value → FW → Prop, Q = (fun r F' => r = none ∧ FRZ (fun q => q = p) F F' ∧ F'.2.2.2.1 = p + 21 ∧ O3i F' p ∧ O7 F' (p + 1) ∧ O7 F' (p + 9) ∧ O3 F' (p + 17)) := ⟨_, rfl⟩
  rw [← hQ]
  refine (show Pv (ab_T (L_X3_init Z_X7_init Z_X6_init Z_X5_init)) N 0 [some (.ref p)] [] F Q from ?_)
  refine Pv.aload rfl rfl ?_
  refine Pv.obj rfl ?_
  refine Pv.aload rfl rfl ?_
  refine Pv.new rfl (by decide) (by decide) ?_
  rw [hz]
  refine (show Pv _ _ 8 [some (.ref p)] [.ref (p + 1), .ref p] (fnw F 0) Q from ?_)
  refine Pv.dup rfl ?_
  refine Pv.call (as := [.ref (p + 1)]) (rest := [.ref (p + 1), .ref p]) rfl rfl rfl (f_x7_init (F := fnw F 0) (p := p + 1) (by show F.2.2.2.1 + 1 = _; rw [hz])) ?_
  rintro _ G1 ⟨rfl, w1, o1⟩
  have z1 : G1.2.2.2.1 = p + 9 := by rw [w1.1]; show F.2.2.2.1 + 1 + 7 = _; omega
  refine (show Pv _ _ 12 [some (.ref p)] [.ref (p + 1), .ref p] G1 Q from ?_)
  refine Pv.putR rfl rfl (Or.inr ⟨_, rfl⟩) ?_
  obtain ⟨H1, e1⟩ : ∃ H1, H1 = fpr G1 p 0 (.ref (p + 1)) := ⟨_, rfl⟩
  rw [← e1]
  have y1 : H1.2.2.2.1 = p + 9 := by rw [e1]; exact z1
  have f1 : FRZ (fun q => q = p) F H1 := by
    rw [e1]
    refine ⟨by show _ ≤ G1.2.2.2.1; omega, fun a ha c => ?_⟩
    obtain ⟨h1, h2, h3, -⟩ := w1.2 a (by show a < F.2.2.2.1 + 1; omega) (by omega)
    exact ⟨fun k => (h1 k).trans (if_neg (by omega)), fun k => (fpr_ne (Or.inl c)).trans ((h2 k).trans (if_neg (by omega))), fun k => (h3 k).trans (if_neg (by omega))⟩
  have r1 : H1.2.1 p 0 = .ref (p + 1) := by rw [e1]; exact fpr_eq
  have q1 : O7 H1 (p + 1) := fun j hj => by rw [e1]; exact (fpr_ne (Or.inl (by omega))).trans (o1 j hj)
  refine Pv.aload rfl rfl ?_
  refine Pv.new rfl (by decide) (by decide) ?_
  rw [y1]
  refine (show Pv _ _ 19 [some (.ref p)] [.ref (p + 9), .ref p] (fnw H1 0) Q from ?_)
  refine Pv.dup rfl ?_
  refine Pv.call (as := [.ref (p + 9)]) (rest := [.ref (p + 9), .ref p]) rfl rfl rfl (f_x6_init (F := fnw H1 0) (p := p + 9) (by show H1.2.2.2.1 + 1 = _; rw [y1])) ?_
  rintro _ G2 ⟨rfl, w2, o2⟩
  have z2 : G2.2.2.2.1 = p + 17 := by rw [w2.1]; show H1.2.2.2.1 + 1 + 7 = _; omega
  refine (show Pv _ _ 23 [some (.ref p)] [.ref (p + 9), .ref p] G2 Q from ?_)
  refine Pv.putR rfl rfl (Or.inr ⟨_, rfl⟩) ?_
  obtain ⟨H2, e2⟩ : ∃ H2, H2 = fpr G2 p 1 (.ref (p + 9)) := ⟨_, rfl⟩
  rw [← e2]
  have y2 : H2.2.2.2.1 = p + 17 := by rw [e2]; exact z2
  have f2 : FRZ (fun q => q = p) H1 H2 := by
    rw [e2]
    refine ⟨by show _ ≤ G2.2.2.2.1; omega, fun a ha c => ?_⟩
    obtain ⟨h1, h2, h3, -⟩ := w2.2 a (by show a < H1.2.2.2.1 + 1; omega) (by omega)
    exact ⟨fun k => (h1 k).trans (if_neg (by omega)), fun k => (fpr_ne (Or.inl c)).trans ((h2 k).trans (if_neg (by omega))), fun k => (h3 k).trans (if_neg (by omega))⟩
  have r2 : H2.2.1 p 0 = .ref (p + 1) ∧ H2.2.1 p 1 = .ref (p + 9) := by
    obtain ⟨-, h2, -, -⟩ := w2.2 p (by show p < H1.2.2.2.1 + 1; omega) (by omega)
    rw [e2]
    exact ⟨(fpr_ne (Or.inr (by decide))).trans ((h2 0).trans ((if_neg (by omega)).trans r1)), fpr_eq⟩
  have q2 : O7 H2 (p + 9) := fun j hj => by rw [e2]; exact (fpr_ne (Or.inl (by omega))).trans (o2 j hj)
  refine Pv.aload rfl rfl ?_
  refine Pv.new rfl (by decide) (by decide) ?_
  rw [y2]
  refine (show Pv _ _ 30 [some (.ref p)] [.ref (p + 17), .ref p] (fnw H2 0) Q from ?_)
  refine Pv.dup rfl ?_
  refine Pv.call (as := [.ref (p + 17)]) (rest := [.ref (p + 17), .ref p]) rfl rfl rfl (f_x5_init (F := fnw H2 0) (p := p + 17) (by show H2.2.2.2.1 + 1 = _; rw [y2])) ?_
  rintro _ G3 ⟨rfl, w3, o3⟩
  have z3 : G3.2.2.2.1 = p + 21 := by rw [w3.1]; show H2.2.2.2.1 + 1 + 3 = _; omega
  refine (show Pv _ _ 34 [some (.ref p)] [.ref (p + 17), .ref p] G3 Q from ?_)
  refine Pv.putR rfl rfl (Or.inr ⟨_, rfl⟩) ?_
  obtain ⟨H3, e3⟩ : ∃ H3, H3 = fpr G3 p 2 (.ref (p + 17)) := ⟨_, rfl⟩
  rw [← e3]
  have y3 : H3.2.2.2.1 = p + 21 := by rw [e3]; exact z3
  have f3 : FRZ (fun q => q = p) H2 H3 := by
    rw [e3]
    refine ⟨by show _ ≤ G3.2.2.2.1; omega, fun a ha c => ?_⟩
    obtain ⟨h1, h2, h3, -⟩ := w3.2 a (by show a < H2.2.2.2.1 + 1; omega) (by omega)
    exact ⟨fun k => (h1 k).trans (if_neg (by omega)), fun k => (fpr_ne (Or.inl c)).trans ((h2 k).trans (if_neg (by omega))), fun k => (h3 k).trans (if_neg (by omega))⟩
  have r3 : O3i H3 p := by
    obtain ⟨-, h2, -, -⟩ := w3.2 p (by show p < H2.2.2.2.1 + 1; omega) (by omega)
    rw [e3]
    exact ⟨(fpr_ne (Or.inr (by decide))).trans ((h2 0).trans ((if_neg (by omega)).trans r2.1)), (fpr_ne (Or.inr (by decide))).trans ((h2 1).trans ((if_neg (by omega)).trans r2.2)), fpr_eq⟩
  have q3 : O3 H3 (p + 17) := fun j hj => by rw [e3]; exact (fpr_ne (Or.inl (by omega))).trans (o3 j hj)
  refine Pv.vret rfl ?_
  rw [hQ]
  refine ⟨rfl, (f1.tr f2).tr f3, y3, r3, fun j hj => ?_, fun j hj => ?_, q3⟩
  · exact ((f3.2 (p + 1) (by omega) (by omega)).2.1 j).trans (((f2.2 (p + 1) (by omega) (by omega)).2.1 j).trans (q1 j hj))
  · exact ((f3.2 (p + 9) (by omega) (by omega)).2.1 j).trans (q2 j hj)
end
-- 63.b74.image.lean.txt
section
/-! ===== image, restore: the class ===== -/
theorem NMC.fx {P : Nat → Prop} {F G : FW} {p : Nat} {T : St} {nm : Nat → Int} (h : NMC F p T nm) (x : FX P F G) (c1 : ¬ P (p + 1)) (c2 : ¬ P (p + 2)) : NMC G p T nm :=
  ⟨fun g hg => by rw [x.2.1 (p + 1) g c1]; exact h.1 g hg, fun m hm => by rw [x.2.1 (p + 2) m c2]; exact h.2 m hm⟩
theorem SE.fx {P : Nat → Prop} {F G : FW} {p : Nat} {E : Se} (h : SE F p E) (x : FX P F G) (c : ∀ a, p ≤ a → a ≤ p + 3 → ¬ P a) : SE G p E :=
  ⟨fun j hj => by rw [x.2.2.1]; exact h.o j hj, (x.1 _ _ (c _ (by omega) (by omega))).trans h.z, (x.1 _ _ (c _ (by omega) (by omega))).trans h.n, (x.1 _ _ (c _ (by omega) (by omega))).trans h.i, h.a.fx x (c _ (by omega) (by omega)), h.f.fx x (c _ (by omega) (by omega)), h.m.fx x (c _ (by omega) (by omega))⟩
theorem FX.O3 {P : Nat → Prop} {F G : FW} {p : Nat} (h : FX P F G) (o : O3 F p) : O3 G p := fun j hj => by
  rw [h.2.2.1]
  exact o j hj
section IMG
variable {F : FW} {t k v u : Nat} {T T' : St} {S S' : Sh} {E E' : Se} {nm nm' : Nat → Int} {x : Int32}
set_option maxRecDepth 100000 in
set_option maxHeartbeats 4000000 in
theorem o_image37 (hG : GW F) (ht : F.2.1 0 13 = .ref t) (hT : TR F t T) (hN : NMC F t T nm) (hS : SHR F 12 (t_m T) S) (j0 : t = 45 ∨ t = 53) (hu : F.2.1 0 15 = .ref u) (ju : u = 61 ∨ u = 65) (hE : SE F u E) (hO : O3i F v) (h1 : O7 F (v + 1)) (h9 : O7 F (v + 9)) (h17 : O3 F (v + 17)) (h88 : 88 ≤ v) (N : Nat) :
    Pv (ab_T (L_X10_image Z_X3_init Z_X7_copyFrom Z_X6_copyFrom Z_X5_copyFrom)) N 37 [some (.ref 0), some (.int x), some (.ref v)] [] F (fun r F' => r = some (.int 1) ∧ FX (fun q => v ≤ q ∧ q ≤ v + 20) F F' ∧ TR F' (v + 1) T ∧ NMC F' (v + 1) T nm ∧ SHR F' (v + 9) (t_m T) S ∧ SE F' (v + 17) E) := by
  have b3 := hT.mb
  refine Pv.aload rfl rfl ?_
  refine Pv.getR (v := .ref (v + 1)) rfl rfl hO.1 ?_
  refine Pv.aload rfl rfl ?_
  refine Pv.getR (v := .ref t) rfl rfl ht ?_
  refine Pv.callV (as := [.ref (v + 1), .ref t]) (rest := []) rfl rfl rfl (f_stCopy h1 hT hN (by omega)) ?_
  rintro _ G1 ⟨rfl, x1, t1, n1⟩
  refine (show Pv _ _ 48 [some (.ref 0), some (.int x), some (.ref v)] [] G1 _ from ?_)
  refine Pv.aload rfl rfl ?_
  refine Pv.getR (v := .ref (v + 9)) rfl rfl (by rw [x1.2.2.1]; exact hO.2.1) ?_
  refine Pv.aload rfl rfl ?_
  refine Pv.getR (v := .ref 12) rfl rfl ((hG.fx x1).at (a := 0) (k := 4) (b := 12) (by decide)) ?_
  refine Pv.callV (as := [.ref (v + 9), .ref 12]) (rest := []) rfl rfl rfl (f_shCopy (x1.O7 h9) (hS.fx x1 (fun q a b (c : v + 1 ≤ q ∧ q ≤ v + 1 + 7) => by omega)) b3 (by omega)) ?_
  rintro _ G2 ⟨rfl, x2, s2⟩
  refine (show Pv _ _ 59 [some (.ref 0), some (.int x), some (.ref v)] [] G2 _ from ?_)
  refine Pv.aload rfl rfl ?_
  refine Pv.getR (v := .ref (v + 17)) rfl rfl (by rw [x2.2.2.1, x1.2.2.1]; exact hO.2.2) ?_
  refine Pv.aload rfl rfl ?_
  refine Pv.getR (v := .ref u) rfl rfl (by rw [x2.2.2.1, x1.2.2.1]; exact hu) ?_
  refine Pv.callV (as := [.ref (v + 17), .ref u]) (rest := []) rfl rfl rfl (f_seCopy (x2.O3 (x1.O3 h17)) ((hE.fx x1 (fun q a b (c : v + 1 ≤ q ∧ q ≤ v + 1 + 7) => by omega)).fx x2 (fun q a b (c : v + 9 ≤ q ∧ q ≤ v + 9 + 7) => by omega)) (by omega)) ?_
  rintro _ G3 ⟨rfl, x3, e3⟩
  refine (show Pv _ _ 70 [some (.ref 0), some (.int x), some (.ref v)] [] G3 _ from ?_)
  refine Pv.lit rfl ?_
  exact Pv.zret rfl ⟨rfl, ((x1.wd (fun q (c : v + 1 ≤ q ∧ q ≤ v + 1 + 7) => (show v ≤ q ∧ q ≤ v + 20 by omega))).tr (x2.wd (fun q (c : v + 9 ≤ q ∧ q ≤ v + 9 + 7) => (show v ≤ q ∧ q ≤ v + 20 by omega)))).tr (x3.wd (fun q (c : v + 17 ≤ q ∧ q ≤ v + 17 + 3) => (show v ≤ q ∧ q ≤ v + 20 by omega))),
    (t1.fx x2 (fun q a b (c : v + 9 ≤ q ∧ q ≤ v + 9 + 7) => by omega)).fx x3 (fun q a b (c : v + 17 ≤ q ∧ q ≤ v + 17 + 3) => by omega),
    (n1.fx x2 (fun (c : v + 9 ≤ v + 1 + 1 ∧ v + 1 + 1 ≤ v + 9 + 7) => by omega) (fun (c : v + 9 ≤ v + 1 + 2 ∧ v + 1 + 2 ≤ v + 9 + 7) => by omega)).fx x3 (fun (c : v + 17 ≤ v + 1 + 1 ∧ v + 1 + 1 ≤ v + 17 + 3) => by omega) (fun (c : v + 17 ≤ v + 1 + 2 ∧ v + 1 + 2 ≤ v + 17 + 3) => by omega),
    s2.fx x3 (fun q a b (c : v + 17 ≤ q ∧ q ≤ v + 17 + 3) => by omega), e3⟩
set_option maxRecDepth 100000 in
set_option maxHeartbeats 4000000 in
theorem o_image11 (hG : GW F) (hk : k < 2) {Q : Option Value → FW → Prop} (h : ∀ N, Pv (ab_T (L_X10_image Z_X3_init Z_X7_copyFrom Z_X6_copyFrom Z_X5_copyFrom)) N 18 [some (.ref 0), some (.int (Int32.ofNat k)), some (F.2.1 41 k)] [] F Q) (hv : F.2.1 41 k = .null ∨ ∃ v, F.2.1 41 k = .ref v) : Pm Z_X10_image [.ref 0, .int (Int32.ofNat k)] F Q := by
  refine Pm.of fun N => ?_
  refine (show Pv (ab_T (L_X10_image Z_X3_init Z_X7_copyFrom Z_X6_copyFrom Z_X5_copyFrom)) N 0 [some (.ref 0), some (.int (Int32.ofNat k)), none] [] F Q from ?_)
  refine Pv.iload rfl rfl ?_
  refine Pv.if0 rfl (fun c => ?_) (fun c => ?_)
  · exact absurd ((i_lt (a := k) (b := 0) (by omega) (by omega)).mp (of_decide_eq_true c)) (by omega)
  refine Pv.iload rfl rfl ?_
  refine Pv.lit rfl ?_
  refine Pv.icmp rfl (fun c => ?_) (fun c => ?_)
  · refine Pv.aload rfl rfl ?_
    refine Pv.getR (v := .ref 41) rfl rfl (hG.at (a := 0) (k := 9) (b := 41) (by decide)) ?_
    refine Pv.iload rfl rfl ?_
    refine Pv.aald (v := F.2.1 41 k) rfl (by rw [i_toNat (by omega)]) ?_
    have h' := h N
    rcases hv with e | ⟨v, e⟩ <;> rw [e] at h' ⊢
    · exact Pv.astoreN rfl rfl h'
    · exact Pv.astore rfl rfl h'
  · exact absurd hk (fun c2 => absurd ((i_lt (a := k) (b := 2) (by omega) (by omega)).mpr c2) (of_decide_eq_false c))
theorem o_image_n (h : nd 2 x = none) : Pm Z_X10_image [.ref 0, .int x] F (fun r F' => r = some (.int 0) ∧ F' = F) := by
  refine Pm.of fun N => ?_
  refine (show Pv (ab_T (L_X10_image Z_X3_init Z_X7_copyFrom Z_X6_copyFrom Z_X5_copyFrom)) N 0 [some (.ref 0), some (.int x), none] [] F _ from ?_)
  refine Pv.iload rfl rfl ?_
  refine Pv.if0 rfl (fun c => ?_) (fun c => ?_)
  · refine Pv.lit rfl ?_
    exact Pv.zret rfl ⟨rfl, rfl⟩
  refine Pv.iload rfl rfl ?_
  refine Pv.lit rfl ?_
  refine Pv.icmp rfl (fun c2 => ?_) (fun c2 => ?_)
  · have e : (nd 2 x).isSome = true := by
      rw [← nd_le (by decide), decide_eq_true (Int32.not_lt.mp (of_decide_eq_false c))]
      exact c2
    rw [h] at e
    cases e
  · refine Pv.lit rfl ?_
    exact Pv.zret rfl ⟨rfl, rfl⟩
set_option maxRecDepth 100000 in
set_option maxHeartbeats 4000000 in
theorem o_image_0 (hG : GW F) (hk : k < 2) (hv : F.2.1 41 k = .null) (hz : 88 ≤ F.2.2.2.1) (ht : F.2.1 0 13 = .ref t) (hT : TR F t T) (hN : NMC F t T nm) (hS : SHR F 12 (t_m T) S) (j0 : t = 45 ∨ t = 53) (hu : F.2.1 0 15 = .ref u) (ju : u = 61 ∨ u = 65) (hE : SE F u E) :
    Pm Z_X10_image [.ref 0, .int (Int32.ofNat k)] F (fun r F' => r = some (.int 1) ∧ F'.2.2.2.1 = F.2.2.2.1 + 21 ∧ FRZ (fun q => q = 41) F F' ∧ (∀ j, j ≠ k → F'.2.1 41 j = F.2.1 41 j) ∧ F'.2.1 41 k = .ref F.2.2.2.1 ∧ O3i F' F.2.2.2.1 ∧ TR F' (F.2.2.2.1 + 1) T ∧ NMC F' (F.2.2.2.1 + 1) T nm ∧ SHR F' (F.2.2.2.1 + 9) (t_m T) S ∧ SE F' (F.2.2.2.1 + 17) E) := by
  refine o_image11 hG hk (fun N => ?_) (Or.inl hv)
  rw [hv]
  obtain ⟨z, ez⟩ : ∃ z, z = F.2.2.2.1 := ⟨_, rfl⟩
  refine Pv.aloadN rfl rfl ?_
  refine Pv.nonnullN rfl ?_
  refine Pv.new rfl (by decide) (by decide) ?_
  rw [← ez]
  refine (show Pv _ _ 25 [some (.ref 0), some (.int (Int32.ofNat k)), some .null] [.ref z] (fnw F 0) _ from ?_)
  refine Pv.dup rfl ?_
  refine Pv.call (as := [.ref z]) (rest := [.ref z]) rfl rfl rfl (f_x3_init (F := fnw F 0) (p := z) (by show F.2.2.2.1 + 1 = _; rw [ez])) ?_
  rintro _ G ⟨rfl, w, zz, o3, o1, o9, o17⟩
  have z0 : (fnw F 0).2.2.2.1 = z + 1 := by rw [ez]; rfl
  have g0 : FRZ (fun q => q = z) F G := (fnw_frz (n := 0)).tr w
  refine (show Pv _ _ 29 [some (.ref 0), some (.int (Int32.ofNat k)), some .null] [.ref z] G _ from ?_)
  refine Pv.astore (lo' := [some (.ref 0), some (.int (Int32.ofNat k)), some (.ref z)]) rfl rfl ?_
  refine Pv.aload rfl rfl ?_
  have gw := hG.frz g0 hz (fun y my e => by have := (wires_lt y my).2; omega)
  refine Pv.getR (v := .ref 41) rfl rfl (gw.at (a := 0) (k := 9) (b := 41) (by decide)) ?_
  refine Pv.iload rfl rfl ?_
  refine Pv.aload rfl rfl ?_
  refine Pv.aastk (k := k) rfl (i_toNat (by omega)) ?_
  obtain ⟨H, eH⟩ : ∃ H, H = fpr G 41 k (.ref z) := ⟨_, rfl⟩
  rw [← eH]
  have gH : FRZ (fun q => q = 41) F H := by
    rw [eH]
    exact (g0.wd (fun a ha (c : a = z) => absurd ha (by omega))).tr (fpr_frz rfl)
  have zH : H.2.2.2.1 = z + 21 := by rw [eH]; exact zz
  have rH : ∀ a j, a ≠ 41 → H.2.1 a j = G.2.1 a j := fun a j c => by rw [eH]; exact fpr_ne (Or.inl c)
  have hz' : 88 ≤ z := by omega
  refine (o_image37 (F := H) (v := z) (hG := fun y my => (rH y.1 y.2.1 (wires_41 y my)).trans (gw y my)) ((rH 0 13 (by decide)).trans (((g0.2 0 (by omega) (by omega)).2.1 13).trans ht)) (hT.frz gH (by omega) (fun a h1 h2 c => by omega)) (hN.frz gH (by omega) (by omega) (by omega)) (hS.frz gH (by omega) (fun a h1 h2 c => by omega)) j0 ((rH 0 15 (by decide)).trans (((g0.2 0 (by omega) (by omega)).2.1 15).trans hu)) ju (hE.frz gH (by omega) (fun a h1 h2 c => by omega))
    ⟨(rH z 0 (by omega)).trans o3.1, (rH z 1 (by omega)).trans o3.2.1, (rH z 2 (by omega)).trans o3.2.2⟩ (fun j hj => (rH _ j (by omega)).trans (o1 j hj)) (fun j hj => (rH _ j (by omega)).trans (o9 j hj)) (fun j hj => (rH _ j (by omega)).trans (o17 j hj)) hz' N).imp ?_
  rintro r F' ⟨e, x1, x2, x3, x4, x5⟩
  try rw [← ez]
  have rF : F'.2.1 = H.2.1 := x1.2.2.1
  exact ⟨e, by rw [x1.2.2.2]; exact zH, gH.fx x1 (fun a ha (c : z ≤ a ∧ a ≤ z + 20) => absurd ha (by omega)), fun j c => by rw [rF, eH]; exact (fpr_ne (Or.inr c)).trans ((g0.2 41 (by omega) (by omega)).2.1 j), by rw [rF, eH]; exact fpr_eq, ⟨by rw [rF]; exact (rH z 0 (by omega)).trans o3.1, by rw [rF]; exact (rH z 1 (by omega)).trans o3.2.1, by rw [rF]; exact (rH z 2 (by omega)).trans o3.2.2⟩, x2, x3, x4, x5⟩
set_option maxRecDepth 100000 in
set_option maxHeartbeats 4000000 in
theorem o_image_1 (hG : GW F) (hk : k < 2) (hv : F.2.1 41 k = .ref v) (h88 : 88 ≤ v) (hO : O3i F v) (h1 : O7 F (v + 1)) (h9 : O7 F (v + 9)) (h17 : O3 F (v + 17)) (ht : F.2.1 0 13 = .ref t) (hT : TR F t T) (hN : NMC F t T nm) (hS : SHR F 12 (t_m T) S) (j0 : t = 45 ∨ t = 53) (hu : F.2.1 0 15 = .ref u) (ju : u = 61 ∨ u = 65) (hE : SE F u E) :
    Pm Z_X10_image [.ref 0, .int (Int32.ofNat k)] F (fun r F' => r = some (.int 1) ∧ FX (fun q => v ≤ q ∧ q ≤ v + 20) F F' ∧ TR F' (v + 1) T ∧ NMC F' (v + 1) T nm ∧ SHR F' (v + 9) (t_m T) S ∧ SE F' (v + 17) E) := by
  refine o_image11 hG hk (fun N => ?_) (Or.inr ⟨v, hv⟩)
  rw [hv]
  refine Pv.aload rfl rfl ?_
  refine Pv.nonnullR rfl ?_
  exact o_image37 hG ht hT hN hS j0 hu ju hE hO h1 h9 h17 h88 N
/-! restore -/
set_option maxRecDepth 100000 in
set_option maxHeartbeats 4000000 in
theorem o_restore11 (hG : GW F) (hk : k < 2) {Q : Option Value → FW → Prop} (h : ∀ N, Pv (ab_T (L_X10_restore Z_X7_copyFrom Z_X6_copyFrom Z_X5_copyFrom Z_X2_forget)) N 18 [some (.ref 0), some (.int (Int32.ofNat k)), some (F.2.1 41 k)] [] F Q) (hv : F.2.1 41 k = .null ∨ ∃ v, F.2.1 41 k = .ref v) : Pm Z_X10_restore [.ref 0, .int (Int32.ofNat k)] F Q := by
  refine Pm.of fun N => ?_
  refine (show Pv (ab_T (L_X10_restore Z_X7_copyFrom Z_X6_copyFrom Z_X5_copyFrom Z_X2_forget)) N 0 [some (.ref 0), some (.int (Int32.ofNat k)), none] [] F Q from ?_)
  refine Pv.iload rfl rfl ?_
  refine Pv.if0 rfl (fun c => ?_) (fun c => ?_)
  · exact absurd ((i_lt (a := k) (b := 0) (by omega) (by omega)).mp (of_decide_eq_true c)) (by omega)
  refine Pv.iload rfl rfl ?_
  refine Pv.lit rfl ?_
  refine Pv.icmp rfl (fun c => ?_) (fun c => ?_)
  · refine Pv.aload rfl rfl ?_
    refine Pv.getR (v := .ref 41) rfl rfl (hG.at (a := 0) (k := 9) (b := 41) (by decide)) ?_
    refine Pv.iload rfl rfl ?_
    refine Pv.aald (v := F.2.1 41 k) rfl (by rw [i_toNat (by omega)]) ?_
    have h' := h N
    rcases hv with e | ⟨v, e⟩ <;> rw [e] at h' ⊢
    · exact Pv.astoreN rfl rfl h'
    · exact Pv.astore rfl rfl h'
  · exact absurd hk (fun c2 => absurd ((i_lt (a := k) (b := 2) (by omega) (by omega)).mpr c2) (of_decide_eq_false c))
theorem o_restore_n (h : nd 2 x = none) : Pm Z_X10_restore [.ref 0, .int x] F (fun r F' => r = some (.int 0) ∧ F' = F) := by
  refine Pm.of fun N => ?_
  refine (show Pv (ab_T (L_X10_restore Z_X7_copyFrom Z_X6_copyFrom Z_X5_copyFrom Z_X2_forget)) N 0 [some (.ref 0), some (.int x), none] [] F _ from ?_)
  refine Pv.iload rfl rfl ?_
  refine Pv.if0 rfl (fun c => ?_) (fun c => ?_)
  · refine Pv.lit rfl ?_
    exact Pv.zret rfl ⟨rfl, rfl⟩
  refine Pv.iload rfl rfl ?_
  refine Pv.lit rfl ?_
  refine Pv.icmp rfl (fun c2 => ?_) (fun c2 => ?_)
  · have e : (nd 2 x).isSome = true := by
      rw [← nd_le (by decide), decide_eq_true (Int32.not_lt.mp (of_decide_eq_false c))]
      exact c2
    rw [h] at e
    cases e
  · refine Pv.lit rfl ?_
    exact Pv.zret rfl ⟨rfl, rfl⟩
theorem o_restore_0 (hG : GW F) (hk : k < 2) (hv : F.2.1 41 k = .null) : Pm Z_X10_restore [.ref 0, .int (Int32.ofNat k)] F (fun r F' => r = some (.int 0) ∧ F' = F) := by
  refine o_restore11 hG hk (fun N => ?_) (Or.inl hv)
  rw [hv]
  refine Pv.aloadN rfl rfl ?_
  refine Pv.nonnullN rfl ?_
  refine Pv.lit rfl ?_
  exact Pv.zret rfl ⟨rfl, rfl⟩
set_option maxRecDepth 100000 in
set_option maxHeartbeats 4000000 in
theorem o_restore_1 (hG : GW F) (hk : k < 2) (hv : F.2.1 41 k = .ref v) (h88 : 88 ≤ v) (hO : O3i F v) (hT' : TR F (v + 1) T') (hN' : NMC F (v + 1) T' nm') (hS' : SHR F (v + 9) (t_m T') S') (hE' : SE F (v + 17) E') (ht : F.2.1 0 13 = .ref t) (hT : TR F t T) (j0 : t = 45 ∨ t = 53) (hu : F.2.1 0 15 = .ref u) (ju : u = 61 ∨ u = 65) (hE : SE F u E) :
    Pm Z_X10_restore [.ref 0, .int (Int32.ofNat k)] F (fun r F' => r = some (.int 1) ∧ FX (fun q => (t ≤ q ∧ q ≤ t + 7) ∨ (12 ≤ q ∧ q ≤ 19) ∨ (u ≤ q ∧ q ≤ u + 3) ∨ q = 10) F F' ∧ TR F' t T' ∧ NMC F' t T' nm' ∧ SHR F' 12 (t_m T') S' ∧ SE F' u E' ∧ F'.1 10 1 = 0) := by
  refine o_restore11 hG hk (fun N => ?_) (Or.inr ⟨v, hv⟩)
  rw [hv]
  have b3 := hT'.mb
  refine Pv.aload rfl rfl ?_
  refine Pv.nonnullR rfl ?_
  refine Pv.aload rfl rfl ?_
  refine Pv.getR (v := .ref t) rfl rfl ht ?_
  refine Pv.aload rfl rfl ?_
  refine Pv.getR (v := .ref (v + 1)) rfl rfl hO.1 ?_
  refine Pv.callV (as := [.ref t, .ref (v + 1)]) (rest := []) rfl rfl rfl (f_stCopy hT.o hT' hN' (by omega)) ?_
  rintro _ G1 ⟨rfl, x1, t1, n1⟩
  refine (show Pv _ _ 35 [some (.ref 0), some (.int (Int32.ofNat k)), some (.ref v)] [] G1 _ from ?_)
  refine Pv.aload rfl rfl ?_
  refine Pv.getR (v := .ref 12) rfl rfl ((hG.fx x1).at (a := 0) (k := 4) (b := 12) (by decide)) ?_
  refine Pv.aload rfl rfl ?_
  refine Pv.getR (v := .ref (v + 9)) rfl rfl (by rw [x1.2.2.1]; exact hO.2.1) ?_
  refine Pv.callV (as := [.ref 12, .ref (v + 9)]) (rest := []) rfl rfl rfl (f_shCopy (x1.O7 hG.o12) (hS'.fx x1 (fun q a b (c : t ≤ q ∧ q ≤ t + 7) => by omega)) b3 (by omega)) ?_
  rintro _ G2 ⟨rfl, x2, s2⟩
  refine (show Pv _ _ 46 [some (.ref 0), some (.int (Int32.ofNat k)), some (.ref v)] [] G2 _ from ?_)
  refine Pv.aload rfl rfl ?_
  refine Pv.getR (v := .ref u) rfl rfl (by rw [x2.2.2.1, x1.2.2.1]; exact hu) ?_
  refine Pv.aload rfl rfl ?_
  refine Pv.getR (v := .ref (v + 17)) rfl rfl (by rw [x2.2.2.1, x1.2.2.1]; exact hO.2.2) ?_
  refine Pv.callV (as := [.ref u, .ref (v + 17)]) (rest := []) rfl rfl rfl (f_seCopy (x2.O3 (x1.O3 hE.o)) ((hE'.fx x1 (fun q a b (c : t ≤ q ∧ q ≤ t + 7) => by omega)).fx x2 (fun q a b (c : 12 ≤ q ∧ q ≤ 12 + 7) => by omega)) (by omega)) ?_
  rintro _ G3 ⟨rfl, x3, e3⟩
  refine (show Pv _ _ 57 [some (.ref 0), some (.int (Int32.ofNat k)), some (.ref v)] [] G3 _ from ?_)
  refine Pv.aload rfl rfl ?_
  refine Pv.getR (v := .ref 10) rfl rfl (by rw [x3.2.2.1, x2.2.2.1, x1.2.2.1]; exact hG.at (a := 0) (k := 3) (b := 10) (by decide)) ?_
  refine Pv.callVU (as := [.ref 10]) (rest := []) rfl rfl rfl f_forget ?_
  refine Pv.lit rfl ?_
  have y1 := x1.wd (P' := fun q => (t ≤ q ∧ q ≤ t + 7) ∨ (12 ≤ q ∧ q ≤ 19) ∨ (u ≤ q ∧ q ≤ u + 3) ∨ q = 10) (fun q c => Or.inl c)
  have y2 := x2.wd (P' := fun q => (t ≤ q ∧ q ≤ t + 7) ∨ (12 ≤ q ∧ q ≤ 19) ∨ (u ≤ q ∧ q ≤ u + 3) ∨ q = 10) (fun q c => Or.inr (Or.inl c))
  have y3 := x3.wd (P' := fun q => (t ≤ q ∧ q ≤ t + 7) ∨ (12 ≤ q ∧ q ≤ 19) ∨ (u ≤ q ∧ q ≤ u + 3) ∨ q = 10) (fun q c => Or.inr (Or.inr (Or.inl c)))
  have y4 : FX (fun q => q = 10) G3 (fp G3 10 1 0) := FX.rf.fp rfl
  exact Pv.zret rfl ⟨rfl, ((y1.tr y2).tr y3).fp (Or.inr (Or.inr (Or.inr rfl))),
    ((t1.fx x2 (fun q a b (c : 12 ≤ q ∧ q ≤ 12 + 7) => by omega)).fx x3 (fun q a b (c : u ≤ q ∧ q ≤ u + 3) => by omega)).fx y4 (fun q a b (c : q = 10) => by omega),
    ((n1.fx x2 (fun (c : 12 ≤ t + 1 ∧ t + 1 ≤ 12 + 7) => by omega) (fun (c : 12 ≤ t + 2 ∧ t + 2 ≤ 12 + 7) => by omega)).fx x3 (fun (c : u ≤ t + 1 ∧ t + 1 ≤ u + 3) => by omega) (fun (c : u ≤ t + 2 ∧ t + 2 ≤ u + 3) => by omega)).fx y4 (fun (c : t + 1 = 10) => by omega) (fun (c : t + 2 = 10) => by omega),
    (s2.fx x3 (fun q a b (c : u ≤ q ∧ q ≤ u + 3) => by omega)).fx y4 (fun q a b (c : q = 10) => by omega), e3.fx y4 (fun a h1 h2 (c : a = 10) => by omega), fp_eq⟩
end IMG
end
-- 63.b74a.lean.txt
section
set_option maxRecDepth 100000 in
set_option maxHeartbeats 4000000 in
theorem q_image_y {F : FW} {k : Nat} (hG : GW F) (hk : k < 2) : Pm Z_X11_image [.ref 69, .int (Int32.ofNat k)] F (fun r F' => r = some (.int 1) ∧ FX (fun q => q = 69 ∨ q = 84 ∨ q = 85 ∨ q = 86) F F' ∧ (∀ j, j < 434 → F'.1 84 (434 * k + j) = F.1 71 j) ∧ (∀ j, j < 434 * k ∨ 434 * k + 434 ≤ j → F'.1 84 j = F.1 84 j) ∧ (∀ j, j ≠ 0 → F'.1 69 j = F.1 69 j) ∧ F'.1 86 k = 1 ∧ (∀ j, j ≠ k → F'.1 86 j = F.1 86 j) ∧ (∀ j, j < 14 → F'.2.2.1 85 (14 * k + j) = F.2.2.1 74 j) ∧ ∀ j, j < 14 * k ∨ 14 * k + 14 ≤ j → F'.2.2.1 85 j = F.2.2.1 85 j) := by
  refine Pm.of fun N => ?_
  obtain ⟨Q, hQ⟩ : ∃ Q : Option Value → FW → Prop, Q = (fun r F' => r = some (.int 1) ∧ FX (fun q => q = 69 ∨ q = 84 ∨ q = 85 ∨ q = 86) F F' ∧ (∀ j, j < 434 → F'.1 84 (434 * k + j) = F.1 71 j) ∧ (∀ j, j < 434 * k ∨ 434 * k + 434 ≤ j → F'.1 84 j = F.1 84 j) ∧ (∀ j, j ≠ 0 → F'.1 69 j = F.1 69 j) ∧ F'.1 86 k = 1 ∧ (∀ j, j ≠ k → F'.1 86 j = F.1 86 j) ∧ (∀ j, j < 14 → F'.2.2.1 85 (14 * k + j) = F.2.2.1 74 j) ∧ ∀ j, j < 14 * k ∨ 14 * k + 14 ≤ j → F'.2.2.1 85 j = F.2.2.1 85 j) := ⟨_, rfl⟩
  rw [← hQ]
  refine (show Pv (ab_T (L_X11_image Z_X11_isIn)) N 0 [some (.ref 69), some (.int (Int32.ofNat k)), none] [] F Q from ?_)
  refine Pv.aload rfl rfl ?_
  refine Pv.lit rfl ?_
  refine Pv.putI rfl rfl ?_
  refine Pv.iload rfl rfl ?_
  refine Pv.lit rfl ?_
  refine Pv.lit rfl ?_
  refine Pv.callI (as := [.int (Int32.ofNat k), .int 0, .int 1]) (rest := []) (z := b2i (decide (0 ≤ (Int32.ofNat k)) && decide ((Int32.ofNat k) ≤ 1))) rfl rfl rfl (q_isIn (Int32.ofNat k) 0 1) ?_
  refine Pv.if0 rfl (fun c1 => ?_) (fun c1 => ?_)
  · skip
    replace c1 : decide (b2i (decide (0 ≤ (Int32.ofNat k)) && decide ((Int32.ofNat k) ≤ 1)) = 0) = false := by simpa using c1
    replace c1 := of_decide_eq_false c1
    replace c1 := b2n.mp c1
    refine Pv.lit rfl ?_
    refine Pv.istore (lo' := [some (.ref 69), some (.int (Int32.ofNat k)), some (.int 0)]) rfl rfl ?_
    refine Pv.lp (ι := Nat × FW) (lof := fun ⟨i, G⟩ => [some (.ref 69), some (.int (Int32.ofNat k)), some (.int (Int32.ofNat i))]) (Ff := fun ⟨i, G⟩ => G) (P := fun ⟨i, G⟩ => (i ≤ 434) ∧ (FX (fun q => q = 69 ∨ q = 84 ∨ q = 85 ∨ q = 86) F G) ∧ (∀ j, j < i → G.1 84 (434 * k + j) = F.1 71 j) ∧ (∀ j, j < 434 * k ∨ 434 * k + 434 ≤ j → G.1 84 j = F.1 84 j) ∧ (∀ j, j ≠ 0 → G.1 69 j = F.1 69 j) ∧ (∀ j, G.1 86 j = F.1 86 j) ∧ (∀ j, G.2.2.1 85 j = F.2.2.1 85 j)) ?_ (0, (fp F 69 0 0)) (⟨Nat.zero_le _, (FX.fp (FX.rf (P := fun q => q = 69 ∨ q = 84 ∨ q = 85 ∨ q = 86)) (Or.inl rfl)), fun j hj => absurd hj (Nat.not_lt_zero j), fun _ _ => fp_ne (Or.inl (by decide)), fun j hj => fp_ne (Or.inr hj), fun _ => fp_ne (Or.inl (by decide)), fun _ => rfl⟩)
    rintro N2 hN3 ⟨i, G⟩ hi4 ih5
    refine (show Pv _ _ 18 [some (.ref 69), some (.int (Int32.ofNat k)), some (.int (Int32.ofNat i))] [] G Q from ?_)
    obtain ⟨hi0, hxG, hA, hB, hC, hD, hE⟩ := hi4
    have hx6 := GW.fx hG hxG
    refine Pv.iloadS rfl rfl ?_
    refine Pv.lit rfl ?_
    refine Pv.icmp rfl (fun c7 => ?_) (fun c7 => ?_)
    · skip
      replace c7 := (i_le (a := 434) (b := i) (by omega) (by omega)).mp (of_decide_eq_true c7)
      refine Pv.lit rfl ?_
      refine Pv.istore (lo' := [some (.ref 69), some (.int (Int32.ofNat k)), some (.int 0)]) rfl rfl ?_
      refine Pv.lp (ι := Nat × FW) (lof := fun ⟨i, G2⟩ => [some (.ref 69), some (.int (Int32.ofNat k)), some (.int (Int32.ofNat i))]) (Ff := fun ⟨i, G2⟩ => G2) (P := fun ⟨i, G2⟩ => (i ≤ 14) ∧ (FX (fun q => q = 69 ∨ q = 84 ∨ q = 85 ∨ q = 86) F G2) ∧ (∀ j, j < 434 → G2.1 84 (434 * k + j) = F.1 71 j) ∧ (∀ j, j < 434 * k ∨ 434 * k + 434 ≤ j → G2.1 84 j = F.1 84 j) ∧ (∀ j, j ≠ 0 → G2.1 69 j = F.1 69 j) ∧ (∀ j, G2.1 86 j = F.1 86 j) ∧ (∀ j, j < i → G2.2.2.1 85 (14 * k + j) = F.2.2.1 74 j) ∧ (∀ j, j < 14 * k ∨ 14 * k + 14 ≤ j → G2.2.2.1 85 j = F.2.2.1 85 j)) ?_ (0, G) (⟨Nat.zero_le _, hxG, fun j hj => hA j (by omega), hB, hC, hD, fun j hj => absurd hj (Nat.not_lt_zero j), fun j _ => hE j⟩)
      rintro N8 hN9 ⟨i, G2⟩ hi10 ih11
      refine (show Pv _ _ 51 [some (.ref 69), some (.int (Int32.ofNat k)), some (.int (Int32.ofNat i))] [] G2 Q from ?_)
      obtain ⟨hi0, hxG2, hA, hB, hC, hD, hE, hH⟩ := hi10
      have hx12 := GW.fx hG hxG2
      refine Pv.iloadS rfl rfl ?_
      refine Pv.lit rfl ?_
      refine Pv.icmp rfl (fun c13 => ?_) (fun c13 => ?_)
      · skip
        replace c13 := (i_le (a := 14) (b := i) (by omega) (by omega)).mp (of_decide_eq_true c13)
        refine Pv.aload rfl rfl ?_
        refine Pv.getR (v := .ref 86) rfl rfl (GW.at (a := 69) (k := 42) (b := 86) hx12 (by decide)) ?_
        refine Pv.iload rfl rfl ?_
        refine Pv.lit rfl ?_
        refine Pv.astk (k := k) (z := 1) rfl (i_toNat (by omega)) (by rfl) ?_
        refine Pv.lit rfl ?_
        exact Pv.zret rfl (by rw [hQ]; exact ⟨rfl, hxG2.fp (Or.inr (Or.inr (Or.inr rfl))), fun j hj => (fp_ne (Or.inl (by decide))).trans (hA j hj), fun j hj => (fp_ne (Or.inl (by decide))).trans (hB j hj), fun j hj => (fp_ne (Or.inl (by decide))).trans (hC j hj), fp_eq, fun j hj => (fp_ne (Or.inr hj)).trans (hD j), fun j hj => hE j (by omega), hH⟩)
      · skip
        replace c13 := mt (i_le (a := 14) (b := i) (by omega) (by omega)).mpr (of_decide_eq_false c13)
        refine Pv.aload rfl rfl ?_
        refine Pv.getR (v := .ref 85) rfl rfl (GW.at (a := 69) (k := 41) (b := 85) hx12 (by decide)) ?_
        refine Pv.lit rfl ?_
        refine Pv.iload rfl rfl ?_
        refine Pv.bin (z := Int32.ofNat (14 * k)) rfl (i_mul 14 k) ?_
        refine Pv.iload rfl rfl ?_
        refine Pv.bin (z := Int32.ofNat ((14 * k) + i)) rfl (i_add (14 * k) i) ?_
        refine Pv.aload rfl rfl ?_
        refine Pv.getR (v := .ref 74) rfl rfl (GW.at (a := 69) (k := 9) (b := 74) hx12 (by decide)) ?_
        refine Pv.iload rfl rfl ?_
        refine Pv.lald (z := F.2.2.1 74 i) rfl (by rw [i_toNat (by omega)]; exact hxG2.2.1 74 _ (by decide)) ?_
        refine Pv.lastk (k := (14 * k) + i) rfl (i_toNat (by omega)) ?_
        refine Pv.iinc (y := Int32.ofNat (i + 1)) (lo' := [some (.ref 69), some (.int (Int32.ofNat k)), some (.int (Int32.ofNat (i + 1)))]) rfl rfl (i_add i 1) rfl ?_
        refine Pv.goto rfl ?_
        exact ih11 (i + 1, (fpl G2 85 ((14 * k) + i) (F.2.2.1 74 i))) (⟨by omega, (FX.fpl hxG2 (Or.inr (Or.inr (Or.inl rfl)))), hA, hB, hC, hD, fun j hj => Or.elim (Classical.em (j = i)) (fun e => by rw [e]; exact fpl_eq) (fun e => (fpl_ne (Or.inr (by omega))).trans (hE j (by omega))), fun j hj => (fpl_ne (Or.inr (by omega))).trans (hH j hj)⟩)
    · skip
      replace c7 := mt (i_le (a := 434) (b := i) (by omega) (by omega)).mpr (of_decide_eq_false c7)
      refine Pv.aload rfl rfl ?_
      refine Pv.getR (v := .ref 84) rfl rfl (GW.at (a := 69) (k := 40) (b := 84) hx6 (by decide)) ?_
      refine Pv.lit rfl ?_
      refine Pv.iload rfl rfl ?_
      refine Pv.bin (z := Int32.ofNat (434 * k)) rfl (i_mul 434 k) ?_
      refine Pv.iload rfl rfl ?_
      refine Pv.bin (z := Int32.ofNat ((434 * k) + i)) rfl (i_add (434 * k) i) ?_
      refine Pv.aload rfl rfl ?_
      refine Pv.getR (v := .ref 71) rfl rfl (GW.at (a := 69) (k := 6) (b := 71) hx6 (by decide)) ?_
      refine Pv.iload rfl rfl ?_
      refine Pv.ald (z := F.1 71 i) rfl (by rw [i_toNat (by omega)]; exact hxG.1 71 _ (by decide)) ?_
      refine Pv.astk (k := (434 * k) + i) (z := F.1 71 i) rfl (i_toNat (by omega)) (rfl) ?_
      refine Pv.iinc (y := Int32.ofNat (i + 1)) (lo' := [some (.ref 69), some (.int (Int32.ofNat k)), some (.int (Int32.ofNat (i + 1)))]) rfl rfl (i_add i 1) rfl ?_
      refine Pv.goto rfl ?_
      exact ih5 (i + 1, (fp G 84 ((434 * k) + i) (F.1 71 i))) (⟨by omega, (FX.fp hxG (Or.inr (Or.inl rfl))), fun j hj => Or.elim (Classical.em (j = i)) (fun e => by rw [e]; exact fp_eq) (fun e => (fp_ne (Or.inr (by omega))).trans (hA j (by omega))), fun j hj => (fp_ne (Or.inr (by omega))).trans (hB j hj), fun j hj => (fp_ne (Or.inl (by decide))).trans (hC j hj), fun j => (fp_ne (Or.inl (by decide))).trans (hD j), hE⟩)
  · skip
    replace c1 : decide (b2i (decide (0 ≤ (Int32.ofNat k)) && decide ((Int32.ofNat k) ≤ 1)) = 0) = true := by simpa using c1
    replace c1 := of_decide_eq_true c1
    replace c1 := b2z.mp c1
    exact absurd ((nd_in2 (n := 2) (m := 1) (x := Int32.ofNat k) rfl (by decide)).symm.trans c1) (by rw [nd_of (by omega) (by decide)]; exact Bool.noConfusion)
set_option maxRecDepth 100000 in
set_option maxHeartbeats 4000000 in
theorem q_image_n {F : FW} {x : Int32} (h : nd 2 x = none) : Pm Z_X11_image [.ref 69, .int x] F (fun r F' => r = some (.int 0) ∧ F' = fp F 69 0 0) := by
  refine Pm.of fun N => ?_
  obtain ⟨Q, hQ⟩ : ∃ Q : Option Value → FW → Prop, Q = (fun r F' => r = some (.int 0) ∧ F' = fp F 69 0 0) := ⟨_, rfl⟩
  rw [← hQ]
  refine (show Pv (ab_T (L_X11_image Z_X11_isIn)) N 0 [some (.ref 69), some (.int x), none] [] F Q from ?_)
  refine Pv.aload rfl rfl ?_
  refine Pv.lit rfl ?_
  refine Pv.putI rfl rfl ?_
  refine Pv.iload rfl rfl ?_
  refine Pv.lit rfl ?_
  refine Pv.lit rfl ?_
  refine Pv.callI (as := [.int x, .int 0, .int 1]) (rest := []) (z := b2i (decide (0 ≤ x) && decide (x ≤ 1))) rfl rfl rfl (q_isIn x 0 1) ?_
  refine Pv.if0 rfl (fun c1 => ?_) (fun c1 => ?_)
  · skip
    replace c1 : decide (b2i (decide (0 ≤ x) && decide (x ≤ 1)) = 0) = false := by simpa using c1
    replace c1 := of_decide_eq_false c1
    replace c1 := b2n.mp c1
    exact absurd ((nd_in2 (n := 2) (m := 1) (x := x) rfl (by decide)).symm.trans c1) (by rw [h]; decide)
  · skip
    replace c1 : decide (b2i (decide (0 ≤ x) && decide (x ≤ 1)) = 0) = true := by simpa using c1
    replace c1 := of_decide_eq_true c1
    replace c1 := b2z.mp c1
    refine Pv.lit rfl ?_
    exact Pv.zret rfl (by rw [hQ]; exact ⟨rfl, rfl⟩)
set_option maxRecDepth 100000 in
set_option maxHeartbeats 4000000 in
theorem q_restore_y {F : FW} {k : Nat} {b : Int32} (hG : GW F) (hk : k < 2) (hb : F.1 86 k = b) (hb1 : ¬ b = 0) : Pm Z_X11_restore [.ref 69, .int (Int32.ofNat k)] F (fun r F' => r = some (.int 1) ∧ FX (fun q => q = 69 ∨ q = 71 ∨ q = 74) F F' ∧ (∀ j, j < 434 → F'.1 71 j = F.1 84 (434 * k + j)) ∧ (∀ j, j ≠ 0 → j ≠ 25 → F'.1 69 j = F.1 69 j) ∧ F'.1 69 25 = 0 ∧ (∀ j, j < 14 → F'.2.2.1 74 j = F.2.2.1 85 (14 * k + j)) ∧ ∀ j, 14 ≤ j → F'.2.2.1 74 j = F.2.2.1 74 j) := by
  refine Pm.of fun N => ?_
  obtain ⟨Q, hQ⟩ : ∃ Q : Option Value → FW → Prop, Q = (fun r F' => r = some (.int 1) ∧ FX (fun q => q = 69 ∨ q = 71 ∨ q = 74) F F' ∧ (∀ j, j < 434 → F'.1 71 j = F.1 84 (434 * k + j)) ∧ (∀ j, j ≠ 0 → j ≠ 25 → F'.1 69 j = F.1 69 j) ∧ F'.1 69 25 = 0 ∧ (∀ j, j < 14 → F'.2.2.1 74 j = F.2.2.1 85 (14 * k + j)) ∧ ∀ j, 14 ≤ j → F'.2.2.1 74 j = F.2.2.1 74 j) := ⟨_, rfl⟩
  rw [← hQ]
  refine (show Pv (ab_T (L_X11_restore Z_X11_isIn)) N 0 [some (.ref 69), some (.int (Int32.ofNat k)), none] [] F Q from ?_)
  refine Pv.aload rfl rfl ?_
  refine Pv.lit rfl ?_
  refine Pv.putI rfl rfl ?_
  refine Pv.iload rfl rfl ?_
  refine Pv.lit rfl ?_
  refine Pv.lit rfl ?_
  refine Pv.callI (as := [.int (Int32.ofNat k), .int 0, .int 1]) (rest := []) (z := b2i (decide (0 ≤ (Int32.ofNat k)) && decide ((Int32.ofNat k) ≤ 1))) rfl rfl rfl (q_isIn (Int32.ofNat k) 0 1) ?_
  refine Pv.if0 rfl (fun c1 => ?_) (fun c1 => ?_)
  · skip
    replace c1 := of_decide_eq_true c1
    replace c1 := b2z.mp c1
    exact absurd ((nd_in2 (n := 2) (m := 1) (x := Int32.ofNat k) rfl (by decide)).symm.trans c1) (by rw [nd_of (by omega) (by decide)]; exact Bool.noConfusion)
  · skip
    replace c1 := of_decide_eq_false c1
    replace c1 := b2n.mp c1
    refine Pv.aload rfl rfl ?_
    refine Pv.getR (v := .ref 86) rfl rfl (GW.at (a := 69) (k := 42) (b := 86) hG (by decide)) ?_
    refine Pv.iload rfl rfl ?_
    refine Pv.ald (z := b) rfl (by rw [i_toNat (by omega)]; exact (fp_ne (Or.inl (by decide))).trans (hb)) ?_
    refine Pv.if0 rfl (fun c2 => ?_) (fun c2 => ?_)
    · skip
      replace c2 : decide (b = 0) = false := by simpa using c2
      replace c2 := of_decide_eq_false c2
      refine Pv.lit rfl ?_
      refine Pv.istore (lo' := [some (.ref 69), some (.int (Int32.ofNat k)), some (.int 0)]) rfl rfl ?_
      refine Pv.lp (ι := Nat × FW) (lof := fun ⟨i, G⟩ => [some (.ref 69), some (.int (Int32.ofNat k)), some (.int (Int32.ofNat i))]) (Ff := fun ⟨i, G⟩ => G) (P := fun ⟨i, G⟩ => (i ≤ 434) ∧ (FX (fun q => q = 69 ∨ q = 71 ∨ q = 74) F G) ∧ (∀ j, j < i → G.1 71 j = F.1 84 (434 * k + j)) ∧ (∀ j, j ≠ 0 → G.1 69 j = F.1 69 j) ∧ (∀ j, G.2.2.1 74 j = F.2.2.1 74 j)) ?_ (0, (fp F 69 0 0)) (⟨Nat.zero_le _, (FX.fp (FX.rf (P := fun q => q = 69 ∨ q = 71 ∨ q = 74)) (Or.inl rfl)), fun j hj => absurd hj (Nat.not_lt_zero j), fun j hj => fp_ne (Or.inr hj), fun _ => rfl⟩)
      rintro N3 hN4 ⟨i, G⟩ hi5 ih6
      refine (show Pv _ _ 27 [some (.ref 69), some (.int (Int32.ofNat k)), some (.int (Int32.ofNat i))] [] G Q from ?_)
      obtain ⟨hi0, hxG, hA, hC, hE⟩ := hi5
      have hx7 := GW.fx hG hxG
      refine Pv.iloadS rfl rfl ?_
      refine Pv.lit rfl ?_
      refine Pv.icmp rfl (fun c8 => ?_) (fun c8 => ?_)
      · skip
        replace c8 := (i_le (a := 434) (b := i) (by omega) (by omega)).mp (of_decide_eq_true c8)
        refine Pv.lit rfl ?_
        refine Pv.istore (lo' := [some (.ref 69), some (.int (Int32.ofNat k)), some (.int 0)]) rfl rfl ?_
        refine Pv.lp (ι := Nat × FW) (lof := fun ⟨i, G2⟩ => [some (.ref 69), some (.int (Int32.ofNat k)), some (.int (Int32.ofNat i))]) (Ff := fun ⟨i, G2⟩ => G2) (P := fun ⟨i, G2⟩ => (i ≤ 14) ∧ (FX (fun q => q = 69 ∨ q = 71 ∨ q = 74) F G2) ∧ (∀ j, j < 434 → G2.1 71 j = F.1 84 (434 * k + j)) ∧ (∀ j, j ≠ 0 → G2.1 69 j = F.1 69 j) ∧ (∀ j, j < i → G2.2.2.1 74 j = F.2.2.1 85 (14 * k + j)) ∧ (∀ j, 14 ≤ j → G2.2.2.1 74 j = F.2.2.1 74 j)) ?_ (0, G) (⟨Nat.zero_le _, hxG, fun j hj => hA j (by omega), hC, fun j hj => absurd hj (Nat.not_lt_zero j), fun j _ => hE j⟩)
        rintro N9 hN10 ⟨i, G2⟩ hi11 ih12
        refine (show Pv _ _ 60 [some (.ref 69), some (.int (Int32.ofNat k)), some (.int (Int32.ofNat i))] [] G2 Q from ?_)
        obtain ⟨hi0, hxG2, hA, hC, hE, hH⟩ := hi11
        have hx13 := GW.fx hG hxG2
        refine Pv.iloadS rfl rfl ?_
        refine Pv.lit rfl ?_
        refine Pv.icmp rfl (fun c14 => ?_) (fun c14 => ?_)
        · skip
          replace c14 := (i_le (a := 14) (b := i) (by omega) (by omega)).mp (of_decide_eq_true c14)
          refine Pv.aload rfl rfl ?_
          refine Pv.lit rfl ?_
          refine Pv.putI rfl rfl ?_
          refine Pv.lit rfl ?_
          exact Pv.zret rfl (by rw [hQ]; exact ⟨rfl, hxG2.fp (Or.inl rfl), fun j hj => (fp_ne (Or.inl (by decide))).trans (hA j hj), fun j h1 h2 => (fp_ne (Or.inr h2)).trans (hC j h1), fp_eq, fun j hj => hE j (by omega), hH⟩)
        · skip
          replace c14 := mt (i_le (a := 14) (b := i) (by omega) (by omega)).mpr (of_decide_eq_false c14)
          refine Pv.aload rfl rfl ?_
          refine Pv.getR (v := .ref 74) rfl rfl (GW.at (a := 69) (k := 9) (b := 74) hx13 (by decide)) ?_
          refine Pv.iload rfl rfl ?_
          refine Pv.aload rfl rfl ?_
          refine Pv.getR (v := .ref 85) rfl rfl (GW.at (a := 69) (k := 41) (b := 85) hx13 (by decide)) ?_
          refine Pv.lit rfl ?_
          refine Pv.iload rfl rfl ?_
          refine Pv.bin (z := Int32.ofNat (14 * k)) rfl (i_mul 14 k) ?_
          refine Pv.iload rfl rfl ?_
          refine Pv.bin (z := Int32.ofNat ((14 * k) + i)) rfl (i_add (14 * k) i) ?_
          refine Pv.lald (z := F.2.2.1 85 ((14 * k) + i)) rfl (by rw [i_toNat (by omega)]; exact hxG2.2.1 85 _ (by decide)) ?_
          refine Pv.lastk (k := i) rfl (i_toNat (by omega)) ?_
          refine Pv.iinc (y := Int32.ofNat (i + 1)) (lo' := [some (.ref 69), some (.int (Int32.ofNat k)), some (.int (Int32.ofNat (i + 1)))]) rfl rfl (i_add i 1) rfl ?_
          refine Pv.goto rfl ?_
          exact ih12 (i + 1, (fpl G2 74 i (F.2.2.1 85 ((14 * k) + i)))) (⟨by omega, (FX.fpl hxG2 (Or.inr (Or.inr rfl))), hA, hC, fun j hj => Or.elim (Classical.em (j = i)) (fun e => by rw [e]; exact fpl_eq) (fun e => (fpl_ne (Or.inr (by omega))).trans (hE j (by omega))), fun j hj => (fpl_ne (Or.inr (by omega))).trans (hH j hj)⟩)
      · skip
        replace c8 := mt (i_le (a := 434) (b := i) (by omega) (by omega)).mpr (of_decide_eq_false c8)
        refine Pv.aload rfl rfl ?_
        refine Pv.getR (v := .ref 71) rfl rfl (GW.at (a := 69) (k := 6) (b := 71) hx7 (by decide)) ?_
        refine Pv.iload rfl rfl ?_
        refine Pv.aload rfl rfl ?_
        refine Pv.getR (v := .ref 84) rfl rfl (GW.at (a := 69) (k := 40) (b := 84) hx7 (by decide)) ?_
        refine Pv.lit rfl ?_
        refine Pv.iload rfl rfl ?_
        refine Pv.bin (z := Int32.ofNat (434 * k)) rfl (i_mul 434 k) ?_
        refine Pv.iload rfl rfl ?_
        refine Pv.bin (z := Int32.ofNat ((434 * k) + i)) rfl (i_add (434 * k) i) ?_
        refine Pv.ald (z := F.1 84 ((434 * k) + i)) rfl (by rw [i_toNat (by omega)]; exact hxG.1 84 _ (by decide)) ?_
        refine Pv.astk (k := i) (z := F.1 84 ((434 * k) + i)) rfl (i_toNat (by omega)) (rfl) ?_
        refine Pv.iinc (y := Int32.ofNat (i + 1)) (lo' := [some (.ref 69), some (.int (Int32.ofNat k)), some (.int (Int32.ofNat (i + 1)))]) rfl rfl (i_add i 1) rfl ?_
        refine Pv.goto rfl ?_
        exact ih6 (i + 1, (fp G 71 i (F.1 84 ((434 * k) + i)))) (⟨by omega, (FX.fp hxG (Or.inr (Or.inl rfl))), fun j hj => Or.elim (Classical.em (j = i)) (fun e => by rw [e]; exact fp_eq) (fun e => (fp_ne (Or.inr (by omega))).trans (hA j (by omega))), fun j hj => (fp_ne (Or.inl (by decide))).trans (hC j hj), hE⟩)
    · skip
      replace c2 : decide (b = 0) = true := by simpa using c2
      replace c2 := of_decide_eq_true c2
      exact absurd c2 hb1
set_option maxRecDepth 100000 in
set_option maxHeartbeats 4000000 in
theorem q_restore_z {F : FW} {k : Nat} {b : Int32} (hG : GW F) (hk : k < 2) (hb : F.1 86 k = b) (hb0 : b = 0) : Pm Z_X11_restore [.ref 69, .int (Int32.ofNat k)] F (fun r F' => r = some (.int 0) ∧ F' = fp F 69 0 0) := by
  refine Pm.of fun N => ?_
  obtain ⟨Q, hQ⟩ : ∃ Q : Option Value → FW → Prop, Q = (fun r F' => r = some (.int 0) ∧ F' = fp F 69 0 0) := ⟨_, rfl⟩
  rw [← hQ]
  refine (show Pv (ab_T (L_X11_restore Z_X11_isIn)) N 0 [some (.ref 69), some (.int (Int32.ofNat k)), none] [] F Q from ?_)
  refine Pv.aload rfl rfl ?_
  refine Pv.lit rfl ?_
  refine Pv.putI rfl rfl ?_
  refine Pv.iload rfl rfl ?_
  refine Pv.lit rfl ?_
  refine Pv.lit rfl ?_
  refine Pv.callI (as := [.int (Int32.ofNat k), .int 0, .int 1]) (rest := []) (z := b2i (decide (0 ≤ (Int32.ofNat k)) && decide ((Int32.ofNat k) ≤ 1))) rfl rfl rfl (q_isIn (Int32.ofNat k) 0 1) ?_
  refine Pv.if0 rfl (fun c1 => ?_) (fun c1 => ?_)
  · skip
    replace c1 := of_decide_eq_true c1
    replace c1 := b2z.mp c1
    exact absurd ((nd_in2 (n := 2) (m := 1) (x := Int32.ofNat k) rfl (by decide)).symm.trans c1) (by rw [nd_of (by omega) (by decide)]; exact Bool.noConfusion)
  · skip
    replace c1 := of_decide_eq_false c1
    replace c1 := b2n.mp c1
    refine Pv.aload rfl rfl ?_
    refine Pv.getR (v := .ref 86) rfl rfl (GW.at (a := 69) (k := 42) (b := 86) hG (by decide)) ?_
    refine Pv.iload rfl rfl ?_
    refine Pv.ald (z := b) rfl (by rw [i_toNat (by omega)]; exact (fp_ne (Or.inl (by decide))).trans (hb)) ?_
    refine Pv.if0 rfl (fun c2 => ?_) (fun c2 => ?_)
    · skip
      replace c2 : decide (b = 0) = false := by simpa using c2
      replace c2 := of_decide_eq_false c2
      exact absurd hb0 c2
    · skip
      replace c2 : decide (b = 0) = true := by simpa using c2
      replace c2 := of_decide_eq_true c2
      refine Pv.lit rfl ?_
      exact Pv.zret rfl (by rw [hQ]; exact ⟨rfl, rfl⟩)
set_option maxRecDepth 100000 in
set_option maxHeartbeats 4000000 in
theorem q_restore_n {F : FW} {x : Int32} (h : nd 2 x = none) : Pm Z_X11_restore [.ref 69, .int x] F (fun r F' => r = some (.int 0) ∧ F' = fp F 69 0 0) := by
  refine Pm.of fun N => ?_
  obtain ⟨Q, hQ⟩ : ∃ Q : Option Value → FW → Prop, Q = (fun r F' => r = some (.int 0) ∧ F' = fp F 69 0 0) := ⟨_, rfl⟩
  rw [← hQ]
  refine (show Pv (ab_T (L_X11_restore Z_X11_isIn)) N 0 [some (.ref 69), some (.int x), none] [] F Q from ?_)
  refine Pv.aload rfl rfl ?_
  refine Pv.lit rfl ?_
  refine Pv.putI rfl rfl ?_
  refine Pv.iload rfl rfl ?_
  refine Pv.lit rfl ?_
  refine Pv.lit rfl ?_
  refine Pv.callI (as := [.int x, .int 0, .int 1]) (rest := []) (z := b2i (decide (0 ≤ x) && decide (x ≤ 1))) rfl rfl rfl (q_isIn x 0 1) ?_
  refine Pv.if0 rfl (fun c1 => ?_) (fun c1 => ?_)
  · skip
    replace c1 := of_decide_eq_true c1
    replace c1 := b2z.mp c1
    refine Pv.lit rfl ?_
    exact Pv.zret rfl (by rw [hQ]; exact ⟨rfl, rfl⟩)
  · skip
    replace c1 := of_decide_eq_false c1
    replace c1 := b2n.mp c1
    exact absurd ((nd_in2 (n := 2) (m := 1) (x := x) rfl (by decide)).symm.trans c1) (by rw [h]; decide)
end
-- 63.b75.rd.lean.txt
section
/-! ===== the reference reads a TOKEN ===== -/
def bI (F : FW) (q : Nat) : Int32 := F.1 70 q &&& 255
def RBF (F : FW) (n : Nat) : Nat → Int := fun q => if q < n then (bI F q).toInt else 0
def pkw (F : FW) (n p : Nat) : Int32 := if p < n then bI F p else -1
def smL (x : Int32) : Bool := decide (97 ≤ x) && decide (x ≤ 122)
def dgL (x : Int32) : Bool := decide (48 ≤ x) && decide (x ≤ 57)
/-- cells of the reading: place in the tape, kind, place, length, number -/
def RNX (F G : FW) : Prop := FX (fun q => q = 69) F G ∧ (∀ k, k ≠ 4 → k ≠ 11 → k ≠ 12 → k ≠ 13 → k ≠ 14 → G.1 69 k = F.1 69 k) ∧ ∀ k, k ≠ 17 → G.2.2.1 69 k = F.2.2.1 69 k
theorem RNX.rf {F : FW} : RNX F F := ⟨FX.rf, fun _ _ _ _ _ _ => rfl, fun _ _ => rfl⟩
theorem RNX.tr {F G K : FW} (a : RNX F G) (b : RNX G K) : RNX F K := ⟨a.1.tr b.1, fun k h1 h2 h3 h4 h5 => (b.2.1 k h1 h2 h3 h4 h5).trans (a.2.1 k h1 h2 h3 h4 h5), fun k h => (b.2.2 k h).trans (a.2.2 k h)⟩
theorem RNX.fp {F G : FW} {k : Nat} {v : Int32} (h : RNX F G) (c : k = 4 ∨ k = 11 ∨ k = 12 ∨ k = 13 ∨ k = 14) : RNX F (fp G 69 k v) := ⟨h.1.fp rfl, fun j h1 h2 h3 h4 h5 => (fp_ne (Or.inr (by omega))).trans (h.2.1 j h1 h2 h3 h4 h5), h.2.2⟩
theorem RNX.fl {F G : FW} {v : Int64} (h : RNX F G) : RNX F (fpl G 69 17 v) := ⟨h.1.fpl rfl, h.2.1, fun j c => (fpl_ne (Or.inr c)).trans (h.2.2 j c)⟩
theorem RNX.G {F G : FW} (h : RNX F G) (g : GW F) : GW G := g.fx h.1
def NTF (F : FW) (T : TT) : Prop := (F.1 69 12).toInt = T.pl ∧ F.1 69 4 = Int32.ofNat T.nx ∧ (F.1 69 11).toInt = rkk T.k ∧ (rkk T.k = 2 → (F.1 69 14).toInt = T.v) ∧ (rkk T.k = 3 → (F.1 69 14).toInt = T.k) ∧ (rkk T.k = 1 → (F.2.2.1 69 17).toInt = T.v)
theorem fp_id {F : FW} {a k : Nat} {x : Int32} (h : F.1 a k = x) : F = fp F a k x := Prod.ext (funext fun p => funext fun j => by
  show F.1 p j = if p = a ∧ j = k then x else F.1 p j
  by_cases c : p = a ∧ j = k
  · rw [if_pos c, c.1, c.2, h]
  · rw [if_neg c]) rfl
theorem RB_lt {F : FW} {n q : Nat} (h : q < n) : RBF F n q = (bI F q).toInt := if_pos h
theorem RB_b (F : FW) (n q : Nat) : 0 ≤ RBF F n q ∧ RBF F n q ≤ 255 := by
  unfold RBF
  by_cases h : q < n
  · rw [if_pos h]
    exact oct_b _
  · rw [if_neg h]
    omega
theorem pkw_lt {F : FW} {n q : Nat} (h : q < n) : pkw F n q = bI F q := if_pos h
theorem pkw_ge {F : FW} {n q : Nat} (h : n ≤ q) : pkw F n q = -1 := if_neg (by omega)
theorem pkw_in {F : FW} {n q : Nat} {x : Int32} (h : pkw F n q = x) (hx : 0 ≤ x.toInt) : q < n ∧ RBF F n q = x.toInt := by
  by_cases c : q < n
  · rw [pkw_lt c] at h
    exact ⟨c, by rw [RB_lt c, h]⟩
  · rw [pkw_ge (by omega)] at h
    rw [← h] at hx
    exact absurd hx (by decide)
theorem pkw_to {F : FW} {n q : Nat} (h : q < n) : (pkw F n q).toInt = RBF F n q := by rw [pkw_lt h, RB_lt h]
theorem pkw_nb {F : FW} {n q : Nat} (h1 : ¬ pkw F n q = 32) (h2 : ¬ pkw F n q = 10) : n ≤ q ∨ tk_b (RBF F n q) = false := by
  by_cases c : q < n
  · refine Or.inr (tk_b_f (fun e => h1 ?_) (fun e => h2 ?_))
    · exact Int32.toInt_inj.mp ((pkw_to c).trans e)
    · exact Int32.toInt_inj.mp ((pkw_to c).trans e)
  · exact Or.inl (by omega)
theorem sm_t {F : FW} {n q : Nat} (h : smL (pkw F n q) = true) : q < n ∧ tk_l (RBF F n q) = true := by
  unfold smL at h
  rw [Bool.and_eq_true, decide_eq_true_eq, decide_eq_true_eq, Int32.le_iff_toInt_le, Int32.le_iff_toInt_le] at h
  have e1 : (97 : Int32).toInt = 97 := rfl
  have e2 : (122 : Int32).toInt = 122 := rfl
  by_cases c : q < n
  · rw [pkw_to c] at h
    exact ⟨c, tk_l_t (by omega) (by omega)⟩
  · rw [pkw_ge (by omega)] at h
    have e3 : (-1 : Int32).toInt = -1 := rfl
    omega
theorem sm_f {F : FW} {n q : Nat} (c : q < n) (h : smL (pkw F n q) = false) : tk_l (RBF F n q) = false := by
  cases e : tk_l (RBF F n q) with
  | false => rfl
  | true =>
    have b := tk_l_i e
    have e1 : (97 : Int32).toInt = 97 := rfl
    have e2 : (122 : Int32).toInt = 122 := rfl
    unfold smL at h
    rw [decide_eq_true (show (97 : Int32) ≤ pkw F n q from by rw [Int32.le_iff_toInt_le, pkw_to c]; omega), decide_eq_true (show pkw F n q ≤ (122 : Int32) from by rw [Int32.le_iff_toInt_le, pkw_to c]; omega)] at h
    cases h
theorem dg_t {F : FW} {n q : Nat} (h : dgL (pkw F n q) = true) : q < n ∧ tk_d (RBF F n q) = true := by
  unfold dgL at h
  rw [Bool.and_eq_true, decide_eq_true_eq, decide_eq_true_eq, Int32.le_iff_toInt_le, Int32.le_iff_toInt_le] at h
  have e1 : (48 : Int32).toInt = 48 := rfl
  have e2 : (57 : Int32).toInt = 57 := rfl
  by_cases c : q < n
  · rw [pkw_to c] at h
    exact ⟨c, tk_d_t (by omega) (by omega)⟩
  · rw [pkw_ge (by omega)] at h
    have e3 : (-1 : Int32).toInt = -1 := rfl
    omega
theorem dg_f {F : FW} {n q : Nat} (c : q < n) (h : dgL (pkw F n q) = false) : tk_d (RBF F n q) = false := by
  cases e : tk_d (RBF F n q) with
  | false => rfl
  | true =>
    have b := tk_d_i e
    have e1 : (48 : Int32).toInt = 48 := rfl
    have e2 : (57 : Int32).toInt = 57 := rfl
    unfold dgL at h
    rw [decide_eq_true (show (48 : Int32) ≤ pkw F n q from by rw [Int32.le_iff_toInt_le, pkw_to c]; omega), decide_eq_true (show pkw F n q ≤ (57 : Int32) from by rw [Int32.le_iff_toInt_le, pkw_to c]; omega)] at h
    cases h
/-- not a letter, not a digit: the run is at its end -/
theorem rn_stop {F : FW} {n q : Nat} (h1 : smL (pkw F n q) = false) (h2 : dgL (pkw F n q) = false) : n ≤ q ∨ tk_r (RBF F n q) = false := by
  by_cases c : q < n
  · exact Or.inr (tk_r_f (sm_f c h1) (dg_f c h2))
  · exact Or.inl (by omega)
def cls (sm : Bool) : Int → Bool := cond sm tk_l tk_d
theorem cls_eq {c : Int} (sm : Bool) (h : tk_r c = true) : cls sm c = (tk_l c == sm) := by
  unfold cls
  cases sm with
  | true =>
    show tk_l c = _
    cases tk_l c <;> rfl
  | false =>
    cases e : tk_l c with
    | true =>
      show tk_d c = _
      rw [tk_ld e]
      rfl
    | false =>
      show tk_d c = _
      unfold tk_r at h
      rw [e, Bool.false_or] at h
      rw [h]
      rfl
theorem b2i_inj {a b : Bool} : b2i a = b2i b ↔ a = b := by
  cases a <;> cases b <;> decide
theorem all_s {B : Nat → Int} {q m : Nat} {sm : Bool} : allP (cls sm) B q (m + 1) = (allP (cls sm) B q m && cls sm (B (q + m))) := rfl
/-- what the run is -/
theorem run_no {B : Nat → Int} {q m : Nat} {sm : Bool} (hm : 1 ≤ m) (hsm : cls sm (B q) = true) (h : allP (cls sm) B q m = false ∨ (cond sm 7 3) < m) : trn B q m = ⟨1, q, 0, q + m⟩ := by
  unfold trn
  cases sm with
  | true =>
    have hl : tk_l (B q) = true := hsm
    rw [if_neg (fun c => ?_), if_neg (fun c => ?_)]
    · have := allP_0 c.1 hm
      rw [tk_ld hl] at this
      cases this
    · rcases h with h | h
      · exact absurd c.1 (by rw [show allP tk_l B q m = false from h]; decide)
      · have h' : 7 < m := h
        exact absurd c.2 (by omega)
  | false =>
    have hl : tk_d (B q) = true := hsm
    rw [if_neg (fun c => ?_), if_neg (fun c => ?_)]
    · rcases h with h | h
      · exact absurd c.1 (by rw [show allP tk_d B q m = false from h]; decide)
      · have h' : 3 < m := h
        exact absurd c.2 (by omega)
    · have := allP_0 c.1 hm
      rw [tk_dl hl] at this
      cases this
theorem run_l {B : Nat → Int} {q m : Nat} (h : allP (cls true) B q m = true) (hm : m ≤ 7) : trn B q m = ⟨kw (pv B q m), q, wd B q m, q + m⟩ := if_pos ⟨h, hm⟩
theorem run_d {B : Nat → Int} {q m : Nat} (h1 : 1 ≤ m) (hd : tk_d (B q) = true) (h : allP (cls false) B q m = true) (hm : m ≤ 3) : trn B q m = ⟨3, q, nb B q m, q + m⟩ := by
  unfold trn
  rw [if_neg (fun c => ?_)]
  · exact if_pos ⟨h, hm⟩
  · have := allP_0 c.1 h1
    rw [tk_dl hd] at this
    cases this
theorem or8 {w : Int64} {x : Int32} {B : Nat → Int} {q m : Nat} (hB : ∀ q, 0 ≤ B q ∧ B q ≤ 255) (hw : w.toInt = wd B q m) (hm : m ≤ 6) (hx : x.toInt = B (q + m)) : ((w <<< (Int32.toInt64 8 &&& 63)) ||| Int32.toInt64 x).toInt = wd B q (m + 1) := by
  have b := wd_48 hB (q := q) (l := m) hm
  have c := hB (q + m)
  have e := l_or8 (w := w) (c := Int32.toInt64 x) (y := 8) rfl (by omega) (by omega) (by rw [Int32.toInt_toInt64]; omega) (by rw [Int32.toInt_toInt64]; omega)
  rw [e, Int32.toInt_toInt64, hw, hx]
  rfl
theorem num3 {x c : Int32} {B : Nat → Int} {q m : Nat} (h : x.toInt = nb B q m) (hd : allP tk_d B q m = true) (hm : m ≤ 2) (hc : c.toInt = B (q + m)) (hB : ∀ q, 0 ≤ B q ∧ B q ≤ 255) : (10 * x + c - 48).toInt = nb B q (m + 1) := by
  have r := nb_rng hd (by omega)
  have c2 := hB (q + m)
  have e10 : (10 : Int32).toInt = 10 := rfl
  have e48 : (48 : Int32).toInt = 48 := rfl
  have e1 : (10 * x).toInt = 10 * x.toInt := by
    rw [Int32.toInt_mul, e10]
    exact Int.bmod_eq_of_le (by omega) (by omega)
  have e2 : (10 * x + c).toInt = 10 * x.toInt + c.toInt := by rw [i_addI (by omega) (by omega), e1]
  rw [i_subI (by omega) (by omega), e2, e48]
  show _ = nb B q m * 10 + (B (q + m) - 48)
  omega
theorem sg_y {F : FW} {n q : Nat} {x : Int32} (hq : q < n) (h : pkw F n q = x) (hx : x.toInt = 59 ∨ x.toInt = 40 ∨ x.toInt = 41 ∨ (60 ≤ x.toInt ∧ x.toInt ≤ 62)) : tsg (RBF F n q) = RBF F n q ∧ rkk (RBF F n q) = 3 := by
  have e : RBF F n q = x.toInt := by rw [← pkw_to hq, h]
  rw [e]
  exact rkk_yes hx
theorem sm_eq {F : FW} {n q : Nat} (h : q < n) : smL (pkw F n q) = tk_l (RBF F n q) := by
  cases e : smL (pkw F n q) with
  | true => rw [(sm_t e).2]
  | false => rw [sm_f h e]
theorem all_z {B : Nat → Int} {q m : Nat} {sm : Bool} (h : b2i (allP (cls sm) B q m) = 0) : 0 = b2i (allP (cls sm) B q (m + 1)) := by
  rw [all_s, b2z.mp h]
  rfl
theorem all_y {B : Nat → Int} {q m : Nat} {sm : Bool} (h : ¬ b2i (allP (cls sm) B q m) = 0) (hr : tk_r (B (q + m)) = true) (e : tk_l (B (q + m)) = sm) : 1 = b2i (allP (cls sm) B q (m + 1)) := by
  rw [all_s, b2n.mp h, cls_eq sm hr, e, Bool.true_and]
  cases sm <;> rfl
theorem all_n {B : Nat → Int} {q m : Nat} {sm : Bool} (hr : tk_r (B (q + m)) = true) (e : ¬ tk_l (B (q + m)) = sm) : 0 = b2i (allP (cls sm) B q (m + 1)) := by
  have e2 : (tk_l (B (q + m)) == sm) = false := beq_eq_false_iff_ne.mpr e
  rw [all_s, cls_eq sm hr, e2, Bool.and_false]
  rfl
theorem all_1 {B : Nat → Int} {q m : Nat} (h : allP (cls false) B q (m + 1) = true) : allP (cls false) B q m = true := by
  rw [all_s, Bool.and_eq_true] at h
  exact h.1
theorem pkw_neg {F : FW} {n q : Nat} (h : ¬ 0 ≤ pkw F n q) : n ≤ q := by
  by_cases c : q < n
  · refine absurd ?_ h
    rw [Int32.le_iff_toInt_le, pkw_to c]
    exact (RB_b F n q).1
  · omega
theorem pkw_pos {F : FW} {n q : Nat} (h : 0 ≤ pkw F n q) : q < n := by
  by_cases c : q < n
  · exact c
  · rw [pkw_ge (by omega)] at h
    exact absurd h (by decide)
theorem sg_3 {F : FW} {n q : Nat} (hq : q < n) (h1 : ¬ pkw F n q < 60) (h2 : ¬ (62 : Int32) < pkw F n q) : tsg (RBF F n q) = RBF F n q ∧ rkk (RBF F n q) = 3 := by
  rw [Int32.lt_iff_toInt_lt] at h1 h2
  have e1 : (60 : Int32).toInt = 60 := rfl
  have e2 : (62 : Int32).toInt = 62 := rfl
  exact sg_y hq rfl (Or.inr (Or.inr (Or.inr ⟨by omega, by omega⟩)))
theorem sg_n {F : FW} {n q : Nat} (hq : q < n) (h1 : ¬ pkw F n q = 59) (h2 : ¬ pkw F n q = 40) (h3 : ¬ pkw F n q = 41) (h4 : pkw F n q < 60 ∨ (62 : Int32) < pkw F n q) : rkk (tsg (RBF F n q)) = 4 := by
  refine rkk_no (fun c => ?_)
  rw [← pkw_to hq] at c
  have e1 : (60 : Int32).toInt = 60 := rfl
  have e2 : (62 : Int32).toInt = 62 := rfl
  rw [Int32.lt_iff_toInt_lt, Int32.lt_iff_toInt_lt] at h4
  rcases c with c | c | c | c
  · exact h1 (Int32.toInt_inj.mp c)
  · exact h2 (Int32.toInt_inj.mp c)
  · exact h3 (Int32.toInt_inj.mp c)
  · omega
end
-- 63.b75a.lean.txt
section
set_option maxRecDepth 100000 in
set_option maxHeartbeats 4000000 in
theorem g_isSmall {F : FW} (x : Int32) : Pm Z_X11_isSmall [.int x] F (fun r F' => r = some (.int (b2i (smL x))) ∧ F' = F) := by
  refine Pm.of fun N => ?_
  obtain ⟨Q, hQ⟩ : ∃ Q : Option Value → FW → Prop, Q = (fun r F' => r = some (.int (b2i (smL x))) ∧ F' = F) := ⟨_, rfl⟩
  rw [← hQ]
  refine (show Pv (ab_T L_X11_isSmall) N 0 [some (.int x)] [] F Q from ?_)
  refine Pv.iload rfl rfl ?_
  refine Pv.lit rfl ?_
  refine Pv.icmp rfl (fun c1 => ?_) (fun c1 => ?_)
  · skip
    replace c1 := of_decide_eq_true c1
    refine Pv.lit rfl ?_
    exact Pv.zret rfl (by rw [hQ]; exact ⟨b2_f (by unfold smL; rw [decide_eq_false (Int32.not_le.mpr c1)]; rfl), rfl⟩)
  · skip
    replace c1 := of_decide_eq_false c1
    refine Pv.iload rfl rfl ?_
    refine Pv.lit rfl ?_
    refine Pv.icmp rfl (fun c2 => ?_) (fun c2 => ?_)
    · skip
      replace c2 := of_decide_eq_true c2
      refine Pv.lit rfl ?_
      exact Pv.zret rfl (by rw [hQ]; exact ⟨b2_f (by unfold smL; rw [decide_eq_false (Int32.not_le.mpr c2), Bool.and_false]), rfl⟩)
    · skip
      replace c2 := of_decide_eq_false c2
      refine Pv.lit rfl ?_
      refine Pv.goto rfl ?_
      exact Pv.zret rfl (by rw [hQ]; exact ⟨b2_t (by unfold smL; rw [decide_eq_true (Int32.not_lt.mp c1), decide_eq_true (Int32.not_lt.mp c2)]; rfl), rfl⟩)
set_option maxRecDepth 100000 in
set_option maxHeartbeats 4000000 in
theorem g_isDigit {F : FW} (x : Int32) : Pm Z_X11_isDigit [.int x] F (fun r F' => r = some (.int (b2i (dgL x))) ∧ F' = F) := by
  refine Pm.of fun N => ?_
  obtain ⟨Q, hQ⟩ : ∃ Q : Option Value → FW → Prop, Q = (fun r F' => r = some (.int (b2i (dgL x))) ∧ F' = F) := ⟨_, rfl⟩
  rw [← hQ]
  refine (show Pv (ab_T L_X11_isDigit) N 0 [some (.int x)] [] F Q from ?_)
  refine Pv.iload rfl rfl ?_
  refine Pv.lit rfl ?_
  refine Pv.icmp rfl (fun c1 => ?_) (fun c1 => ?_)
  · skip
    replace c1 := of_decide_eq_true c1
    refine Pv.lit rfl ?_
    exact Pv.zret rfl (by rw [hQ]; exact ⟨b2_f (by unfold dgL; rw [decide_eq_false (Int32.not_le.mpr c1)]; rfl), rfl⟩)
  · skip
    replace c1 := of_decide_eq_false c1
    refine Pv.iload rfl rfl ?_
    refine Pv.lit rfl ?_
    refine Pv.icmp rfl (fun c2 => ?_) (fun c2 => ?_)
    · skip
      replace c2 := of_decide_eq_true c2
      refine Pv.lit rfl ?_
      exact Pv.zret rfl (by rw [hQ]; exact ⟨b2_f (by unfold dgL; rw [decide_eq_false (Int32.not_le.mpr c2), Bool.and_false]), rfl⟩)
    · skip
      replace c2 := of_decide_eq_false c2
      refine Pv.lit rfl ?_
      refine Pv.goto rfl ?_
      exact Pv.zret rfl (by rw [hQ]; exact ⟨b2_t (by unfold dgL; rw [decide_eq_true (Int32.not_lt.mp c1), decide_eq_true (Int32.not_lt.mp c2)]; rfl), rfl⟩)
set_option maxRecDepth 100000 in
set_option maxHeartbeats 4000000 in
theorem g_peek {F F0 : FW} {p n : Nat} (hG : GW F) (h4 : F.1 69 4 = Int32.ofNat p) (h3 : F.1 69 3 = Int32.ofNat n) (hp : p ≤ 2000) (hn : n ≤ 940) (hB : ∀ q, F.1 70 q = F0.1 70 q) : Pm Z_X11_peek [.ref 69] F (fun r F' => r = some (.int (pkw F0 n p)) ∧ F' = F) := by
  refine Pm.of fun N => ?_
  obtain ⟨Q, hQ⟩ : ∃ Q : Option Value → FW → Prop, Q = (fun r F' => r = some (.int (pkw F0 n p)) ∧ F' = F) := ⟨_, rfl⟩
  rw [← hQ]
  refine (show Pv (ab_T L_X11_peek) N 0 [some (.ref 69)] [] F Q from ?_)
  refine Pv.aload rfl rfl ?_
  refine Pv.getI (z := Int32.ofNat p) rfl rfl (h4) ?_
  refine Pv.aload rfl rfl ?_
  refine Pv.getI (z := Int32.ofNat n) rfl rfl (h3) ?_
  refine Pv.icmp rfl (fun c1 => ?_) (fun c1 => ?_)
  · skip
    replace c1 := (i_le (a := n) (b := p) (by omega) (by omega)).mp (of_decide_eq_true c1)
    refine Pv.lit rfl ?_
    exact Pv.ret rfl (by rw [hQ]; exact ⟨by rw [pkw_ge (F := F0) (n := n) (q := p) (by omega)], rfl⟩)
  · skip
    replace c1 := mt (i_le (a := n) (b := p) (by omega) (by omega)).mpr (of_decide_eq_false c1)
    refine Pv.aload rfl rfl ?_
    refine Pv.getR (v := .ref 70) rfl rfl (GW.at (a := 69) (k := 1) (b := 70) hG (by decide)) ?_
    refine Pv.aload rfl rfl ?_
    refine Pv.getI (z := Int32.ofNat p) rfl rfl (h4) ?_
    refine Pv.ald (z := F0.1 70 p) rfl (by rw [i_toNat (by omega)]; exact hB _) ?_
    refine Pv.lit rfl ?_
    refine Pv.bin (z := (F0.1 70 p) &&& 255) rfl (rfl) ?_
    refine Pv.goto rfl ?_
    exact Pv.ret rfl (by rw [hQ]; exact ⟨by rw [pkw_lt (F := F0) (n := n) (q := p) (by omega)]; rfl, rfl⟩)
set_option maxRecDepth 100000 in
set_option maxHeartbeats 4000000 in
theorem g_nx298 {F F0 : FW} {B : Nat → Int} {q m : Nat} {sm al : Bool} {x : Int32} {w : Int64} (hG : GW F) (hx : RNX F0 F) (h4 : F.1 69 4 = Int32.ofNat (q + m)) (h12 : F.1 69 12 = Int32.ofNat q) (h13 : F.1 69 13 = Int32.ofNat m) (h14 : F.1 69 14 = x) (h17 : F.2.2.1 69 17 = w) (hm : 1 ≤ m) (hqm : q + m ≤ 940) (hsm : cls sm (B q) = true) (hal : al = allP (cls sm) B q m) (hw7 : m ≤ 7 → w.toInt = wd B q m) (hx3 : allP (cls false) B q m = true → m ≤ 3 → x.toInt = nb B q m) (o : Option Value) (N : Nat) : Pv (ab_T (L_X11_next Z_X11_peek Z_X11_isSmall Z_X11_isDigit)) N 298 [some (.ref 69), o, some (.int (b2i sm)), some (.int (b2i al))] [] F (fun r F' => r = none ∧ RNX F0 F' ∧ NTF F' (trn B q m)) := by
  obtain ⟨Q, hQ⟩ : ∃ Q : Option Value → FW → Prop, Q = (fun r F' => r = none ∧ RNX F0 F' ∧ NTF F' (trn B q m)) := ⟨_, rfl⟩
  rw [← hQ]
  refine (show Pv (ab_T (L_X11_next Z_X11_peek Z_X11_isSmall Z_X11_isDigit)) N 298 [some (.ref 69), o, some (.int (b2i sm)), some (.int (b2i al))] [] F Q from ?_)
  refine Pv.aload rfl rfl ?_
  refine Pv.iload rfl rfl ?_
  refine Pv.if0 rfl (fun c1 => ?_) (fun c1 => ?_)
  · skip
    replace c1 := of_decide_eq_true c1
    replace c1 := b2z.mp c1
    refine Pv.lit rfl ?_
    refine Pv.goto rfl ?_
    refine Pv.putI rfl rfl ?_
    have TK : trn B q m = ⟨1, q, 0, q + m⟩ := run_no hm hsm (Or.inl (hal.symm.trans c1))
    exact Pv.vret rfl (by rw [hQ]; exact ⟨rfl, RNX.fp hx (Or.inr (Or.inl rfl)), by rw [TK]; exact ⟨(congrArg Int32.toInt ((fp_ne (Or.inr (by decide))).trans (h12))).trans (i_toInt (by omega)), (fp_ne (Or.inr (by decide))).trans (h4), (congrArg Int32.toInt (fp_eq)).trans (rfl), fun e => absurd e (by show rkk 1 ≠ 2; decide), fun e => absurd e (by show rkk 1 ≠ 3; decide), fun e => absurd e (by show rkk 1 ≠ 1; decide)⟩⟩)
  · skip
    replace c1 := of_decide_eq_false c1
    replace c1 := b2n.mp c1
    refine Pv.aload rfl rfl ?_
    refine Pv.getI (z := Int32.ofNat m) rfl rfl (h13) ?_
    refine Pv.iload rfl rfl ?_
    refine Pv.if0 rfl (fun c2 => ?_) (fun c2 => ?_)
    · skip
      replace c2 := of_decide_eq_true c2
      replace c2 := b2z.mp c2
      refine Pv.lit rfl ?_
      refine Pv.icmp rfl (fun c3 => ?_) (fun c3 => ?_)
      · skip
        replace c3 := (i_le (a := m) (b := 3) (by omega) (by omega)).mp (of_decide_eq_true c3)
        refine Pv.iload rfl rfl ?_
        refine Pv.if0 rfl (fun c4 => ?_) (fun c4 => ?_)
        · skip
          replace c4 := of_decide_eq_true c4
          replace c4 := b2z.mp c4
          refine Pv.lit rfl ?_
          refine Pv.putI rfl rfl ?_
          have es : sm = false := c2
          subst es
          have ea : allP (cls false) B q m = true := hal.symm.trans c1
          have TK : trn B q m = ⟨3, q, nb B q m, q + m⟩ := run_d hm hsm ea (by omega)
          exact Pv.vret rfl (by rw [hQ]; exact ⟨rfl, RNX.fp hx (Or.inr (Or.inl rfl)), by rw [TK]; exact ⟨(congrArg Int32.toInt ((fp_ne (Or.inr (by decide))).trans (h12))).trans (i_toInt (by omega)), (fp_ne (Or.inr (by decide))).trans (h4), (congrArg Int32.toInt (fp_eq)).trans (rfl), fun _ => (congrArg Int32.toInt ((fp_ne (Or.inr (by decide))).trans (h14))).trans (hx3 ea (by omega)), fun e => absurd e (by show rkk 3 ≠ 3; decide), fun e => absurd e (by show rkk 3 ≠ 1; decide)⟩⟩)
        · skip
          replace c4 := of_decide_eq_false c4
          replace c4 := b2n.mp c4
          exact absurd (c2.symm.trans c4) (by decide)
      · skip
        replace c3 := mt (i_le (a := m) (b := 3) (by omega) (by omega)).mpr (of_decide_eq_false c3)
        refine Pv.lit rfl ?_
        refine Pv.goto rfl ?_
        refine Pv.putI rfl rfl ?_
        have es : sm = false := c2
        have TK : trn B q m = ⟨1, q, 0, q + m⟩ := run_no hm hsm (Or.inr (by rw [es]; exact (show 3 < m by omega)))
        exact Pv.vret rfl (by rw [hQ]; exact ⟨rfl, RNX.fp hx (Or.inr (Or.inl rfl)), by rw [TK]; exact ⟨(congrArg Int32.toInt ((fp_ne (Or.inr (by decide))).trans (h12))).trans (i_toInt (by omega)), (fp_ne (Or.inr (by decide))).trans (h4), (congrArg Int32.toInt (fp_eq)).trans (rfl), fun e => absurd e (by show rkk 1 ≠ 2; decide), fun e => absurd e (by show rkk 1 ≠ 3; decide), fun e => absurd e (by show rkk 1 ≠ 1; decide)⟩⟩)
    · skip
      replace c2 := of_decide_eq_false c2
      replace c2 := b2n.mp c2
      refine Pv.lit rfl ?_
      refine Pv.goto rfl ?_
      refine Pv.icmp rfl (fun c5 => ?_) (fun c5 => ?_)
      · skip
        replace c5 := (i_le (a := m) (b := 7) (by omega) (by omega)).mp (of_decide_eq_true c5)
        refine Pv.iload rfl rfl ?_
        refine Pv.if0 rfl (fun c6 => ?_) (fun c6 => ?_)
        · skip
          replace c6 := of_decide_eq_true c6
          replace c6 := b2z.mp c6
          exact absurd (c2.symm.trans c6) (by decide)
        · skip
          replace c6 := of_decide_eq_false c6
          replace c6 := b2n.mp c6
          refine Pv.lit rfl ?_
          refine Pv.goto rfl ?_
          refine Pv.putI rfl rfl ?_
          have es : sm = true := c2
          subst es
          have ea : allP (cls true) B q m = true := hal.symm.trans c1
          have TK : trn B q m = ⟨kw (pv B q m), q, wd B q m, q + m⟩ := run_l ea (by omega)
          exact Pv.vret rfl (by rw [hQ]; exact ⟨rfl, RNX.fp hx (Or.inr (Or.inl rfl)), by rw [TK]; exact ⟨(congrArg Int32.toInt ((fp_ne (Or.inr (by decide))).trans (h12))).trans (i_toInt (by omega)), (fp_ne (Or.inr (by decide))).trans (h4), (congrArg Int32.toInt (fp_eq)).trans ((show (1 : Int32).toInt = rkk (kw (pv B q m)) by rw [rkk_word]; rfl)), fun e => absurd e (by show rkk (kw (pv B q m)) ≠ 2; rw [rkk_word]; decide), fun e => absurd e (by show rkk (kw (pv B q m)) ≠ 3; rw [rkk_word]; decide), fun _ => (congrArg Int64.toInt ((fp_l).trans (h17))).trans (hw7 (by omega))⟩⟩)
      · skip
        replace c5 := mt (i_le (a := m) (b := 7) (by omega) (by omega)).mpr (of_decide_eq_false c5)
        refine Pv.lit rfl ?_
        refine Pv.goto rfl ?_
        refine Pv.putI rfl rfl ?_
        have es : sm = true := c2
        have TK : trn B q m = ⟨1, q, 0, q + m⟩ := run_no hm hsm (Or.inr (by rw [es]; exact (show 7 < m by omega)))
        exact Pv.vret rfl (by rw [hQ]; exact ⟨rfl, RNX.fp hx (Or.inr (Or.inl rfl)), by rw [TK]; exact ⟨(congrArg Int32.toInt ((fp_ne (Or.inr (by decide))).trans (h12))).trans (i_toInt (by omega)), (fp_ne (Or.inr (by decide))).trans (h4), (congrArg Int32.toInt (fp_eq)).trans (rfl), fun e => absurd e (by show rkk 1 ≠ 2; decide), fun e => absurd e (by show rkk 1 ≠ 3; decide), fun e => absurd e (by show rkk 1 ≠ 1; decide)⟩⟩)
set_option maxRecDepth 100000 in
set_option maxHeartbeats 4000000 in
theorem g_nx181 {F F0 : FW} {q n : Nat} {sm : Bool} (hG : GW F) (hx : RNX F0 F) (hB : ∀ k, F.1 70 k = F0.1 70 k) (h3 : F.1 69 3 = Int32.ofNat n) (h4 : F.1 69 4 = Int32.ofNat q) (h12 : F.1 69 12 = Int32.ofNat q) (h13 : F.1 69 13 = 0) (h14 : F.1 69 14 = 0) (h17 : F.2.2.1 69 17 = 0) (hn : n ≤ 940) (hqn : q < n) (hsm : cls sm ((RBF F0 n) q) = true) (hfr : tk_r ((RBF F0 n) q) = true) (o : Option Value) (N : Nat) : Pv (ab_T (L_X11_next Z_X11_peek Z_X11_isSmall Z_X11_isDigit)) N 181 [some (.ref 69), o, some (.int (b2i sm)), some (.int 1)] [] F (fun r F' => r = none ∧ RNX F0 F' ∧ NTF F' (trn (RBF F0 n) q (tk_e tk_r (RBF F0 n) n q - q))) := by
  obtain ⟨Q, hQ⟩ : ∃ Q : Option Value → FW → Prop, Q = (fun r F' => r = none ∧ RNX F0 F' ∧ NTF F' (trn (RBF F0 n) q (tk_e tk_r (RBF F0 n) n q - q))) := ⟨_, rfl⟩
  rw [← hQ]
  refine (show Pv (ab_T (L_X11_next Z_X11_peek Z_X11_isSmall Z_X11_isDigit)) N 181 [some (.ref 69), o, some (.int (b2i sm)), some (.int 1)] [] F Q from ?_)
  refine Pv.lp (ι := Int32 × FW × Nat × Int32 × Int64) (lof := fun ⟨a, G, m, x, w⟩ => [some (.ref 69), o, some (.int (b2i sm)), some (.int a)]) (Ff := fun ⟨a, G, m, x, w⟩ => G) (P := fun ⟨a, G, m, x, w⟩ => (m ≤ n - q) ∧ (RNX F0 G) ∧ (GW G) ∧ (∀ k, G.1 70 k = F0.1 70 k) ∧ (G.1 69 3 = Int32.ofNat n) ∧ (G.1 69 4 = Int32.ofNat (q + m)) ∧ (G.1 69 12 = Int32.ofNat q) ∧ (G.1 69 13 = Int32.ofNat m) ∧ (G.1 69 14 = x) ∧ (G.2.2.1 69 17 = w) ∧ (tk_e tk_r (RBF F0 n) n (q + m) = tk_e tk_r (RBF F0 n) n q) ∧ (a = b2i (allP (cls sm) (RBF F0 n) q m)) ∧ (m ≤ 7 → w.toInt = wd (RBF F0 n) q m) ∧ (allP (cls false) (RBF F0 n) q m = true → m ≤ 3 → x.toInt = nb (RBF F0 n) q m)) ?_ (1, F, 0, 0, 0) (⟨Nat.zero_le _, hx, hG, hB, h3, h4, h12, h13, h14, h17, rfl, rfl, fun _ => rfl, fun _ _ => rfl⟩)
  rintro N1 hN2 ⟨a, G, m, x, w⟩ hi3 ih4
  refine (show Pv _ _ 181 [some (.ref 69), o, some (.int (b2i sm)), some (.int a)] [] G Q from ?_)
  obtain ⟨hmn, hxG, hGG, hBG, g3, g4, g12, g13, g14, g17, hrun, ha, hw7, hx3⟩ := hi3
  refine Pv.aloadS rfl rfl ?_
  refine Pv.callVI (as := [.ref 69]) (rest := []) (z := pkw F0 n (q + m)) rfl rfl rfl (g_peek (F0 := F0) (p := q + m) (n := n) hGG (g4) (g3) (by omega) (by omega) (fun q => hBG _)) ?_
  refine Pv.callI (as := [.int (pkw F0 n (q + m))]) (rest := []) (z := b2i (smL (pkw F0 n (q + m)))) rfl rfl rfl (g_isSmall (pkw F0 n (q + m))) ?_
  refine Pv.if0 rfl (fun c5 => ?_) (fun c5 => ?_)
  · skip
    replace c5 : decide (b2i (smL (pkw F0 n (q + m))) = 0) = false := by simpa using c5
    replace c5 := of_decide_eq_false c5
    replace c5 := b2n.mp c5
    have hq2 := sm_t c5
    have hr : tk_r ((RBF F0 n) (q + m)) = true := tk_r_l hq2.2
    have hq1 : q + m < n := hq2.1
    refine Pv.iload rfl rfl ?_
    refine Pv.if0 rfl (fun c6 => ?_) (fun c6 => ?_)
    · skip
      replace c6 := of_decide_eq_true c6
      refine Pv.lit rfl ?_
      refine Pv.istore (lo' := [some (.ref 69), o, some (.int (b2i sm)), some (.int 0)]) rfl rfl ?_
      refine Pv.aload rfl rfl ?_
      refine Pv.getI (z := Int32.ofNat m) rfl rfl (g13) ?_
      refine Pv.lit rfl ?_
      refine Pv.icmp rfl (fun c7 => ?_) (fun c7 => ?_)
      · skip
        replace c7 := (i_le (a := 7) (b := m) (by omega) (by omega)).mp (of_decide_eq_true c7)
        refine Pv.aload rfl rfl ?_
        refine Pv.getI (z := Int32.ofNat m) rfl rfl (g13) ?_
        refine Pv.lit rfl ?_
        refine Pv.icmp rfl (fun c8 => ?_) (fun c8 => ?_)
        · skip
          replace c8 := (i_le (a := 3) (b := m) (by omega) (by omega)).mp (of_decide_eq_true c8)
          refine Pv.aload rfl rfl ?_
          refine Pv.dup rfl ?_
          refine Pv.getI (z := Int32.ofNat m) rfl rfl (g13) ?_
          refine Pv.lit rfl ?_
          refine Pv.bin (z := Int32.ofNat (m + 1)) rfl (i_add m 1) ?_
          refine Pv.putI rfl rfl ?_
          refine Pv.aload rfl rfl ?_
          refine Pv.dup rfl ?_
          refine Pv.getI (z := Int32.ofNat (q + m)) rfl rfl ((fp_ne (Or.inr (by decide))).trans (g4)) ?_
          refine Pv.lit rfl ?_
          refine Pv.bin (z := Int32.ofNat ((q + m) + 1)) rfl (i_add (q + m) 1) ?_
          refine Pv.putI rfl rfl ?_
          refine Pv.goto rfl ?_
          exact ih4 (0, (fp (fp G 69 13 (Int32.ofNat (m + 1))) 69 4 (Int32.ofNat ((q + m) + 1))), (m + 1), x, w) (⟨by omega, (RNX.fp (RNX.fp hxG (Or.inr (Or.inr (Or.inr (Or.inl rfl))))) (Or.inl rfl)), (fun y my => hGG y my), fun k => (fp_ne (Or.inl (by decide))).trans ((fp_ne (Or.inl (by decide))).trans (hBG _)), (fp_ne (Or.inr (by decide))).trans ((fp_ne (Or.inr (by decide))).trans (g3)), (fp_eq), (fp_ne (Or.inr (by decide))).trans ((fp_ne (Or.inr (by decide))).trans (g12)), (fp_ne (Or.inr (by decide))).trans (fp_eq), (fp_ne (Or.inr (by decide))).trans ((fp_ne (Or.inr (by decide))).trans (g14)), (fp_l).trans ((fp_l).trans (g17)), (congrArg (tk_e tk_r (RBF F0 n) n) (Nat.add_assoc q m 1).symm).trans ((tk_go hq1 hr).symm.trans hrun), all_z (ha.symm.trans c6), fun h => absurd h (by omega), fun h1 h2 => absurd h2 (by omega)⟩)
        · skip
          replace c8 := mt (i_le (a := 3) (b := m) (by omega) (by omega)).mpr (of_decide_eq_false c8)
          refine Pv.aload rfl rfl ?_
          refine Pv.lit rfl ?_
          refine Pv.aload rfl rfl ?_
          refine Pv.getI (z := x) rfl rfl (g14) ?_
          refine Pv.bin (z := 10 * x) rfl (rfl) ?_
          refine Pv.aload rfl rfl ?_
          refine Pv.callVI (as := [.ref 69]) (rest := [.int (10 * x), .ref 69]) (z := pkw F0 n (q + m)) rfl rfl rfl (g_peek (F0 := F0) (p := q + m) (n := n) hGG (g4) (g3) (by omega) (by omega) (fun q => hBG _)) ?_
          refine Pv.bin (z := (10 * x) + (pkw F0 n (q + m))) rfl (rfl) ?_
          refine Pv.lit rfl ?_
          refine Pv.bin (z := ((10 * x) + (pkw F0 n (q + m))) - 48) rfl (rfl) ?_
          refine Pv.putI rfl rfl ?_
          refine Pv.aload rfl rfl ?_
          refine Pv.dup rfl ?_
          refine Pv.getI (z := Int32.ofNat m) rfl rfl ((fp_ne (Or.inr (by decide))).trans (g13)) ?_
          refine Pv.lit rfl ?_
          refine Pv.bin (z := Int32.ofNat (m + 1)) rfl (i_add m 1) ?_
          refine Pv.putI rfl rfl ?_
          refine Pv.aload rfl rfl ?_
          refine Pv.dup rfl ?_
          refine Pv.getI (z := Int32.ofNat (q + m)) rfl rfl ((fp_ne (Or.inr (by decide))).trans ((fp_ne (Or.inr (by decide))).trans (g4))) ?_
          refine Pv.lit rfl ?_
          refine Pv.bin (z := Int32.ofNat ((q + m) + 1)) rfl (i_add (q + m) 1) ?_
          refine Pv.putI rfl rfl ?_
          refine Pv.goto rfl ?_
          exact ih4 (0, (fp (fp (fp G 69 14 (((10 * x) + (pkw F0 n (q + m))) - 48)) 69 13 (Int32.ofNat (m + 1))) 69 4 (Int32.ofNat ((q + m) + 1))), (m + 1), ((10 * x) + (pkw F0 n (q + m))) - 48, w) (⟨by omega, (RNX.fp (RNX.fp (RNX.fp hxG (Or.inr (Or.inr (Or.inr (Or.inr rfl))))) (Or.inr (Or.inr (Or.inr (Or.inl rfl))))) (Or.inl rfl)), (fun y my => hGG y my), fun k => (fp_ne (Or.inl (by decide))).trans ((fp_ne (Or.inl (by decide))).trans ((fp_ne (Or.inl (by decide))).trans (hBG _))), (fp_ne (Or.inr (by decide))).trans ((fp_ne (Or.inr (by decide))).trans ((fp_ne (Or.inr (by decide))).trans (g3))), (fp_eq), (fp_ne (Or.inr (by decide))).trans ((fp_ne (Or.inr (by decide))).trans ((fp_ne (Or.inr (by decide))).trans (g12))), (fp_ne (Or.inr (by decide))).trans (fp_eq), (fp_ne (Or.inr (by decide))).trans ((fp_ne (Or.inr (by decide))).trans (fp_eq)), (fp_l).trans ((fp_l).trans ((fp_l).trans (g17))), (congrArg (tk_e tk_r (RBF F0 n) n) (Nat.add_assoc q m 1).symm).trans ((tk_go hq1 hr).symm.trans hrun), all_z (ha.symm.trans c6), fun h => absurd h (by omega), fun h1 h2 => num3 (hx3 (all_1 h1) (by omega)) (all_1 h1) (by omega) (pkw_to hq1) (RB_b F0 n)⟩)
      · skip
        replace c7 := mt (i_le (a := 7) (b := m) (by omega) (by omega)).mpr (of_decide_eq_false c7)
        refine Pv.aload rfl rfl ?_
        refine Pv.aload rfl rfl ?_
        refine Pv.getL (z := w) rfl rfl (g17) ?_
        refine Pv.lit rfl ?_
        refine Pv.lsh (z := w <<< (Int32.toInt64 8 &&& 63)) rfl (rfl) ?_
        refine Pv.aload rfl rfl ?_
        refine Pv.callVI (as := [.ref 69]) (rest := [.long (w <<< (Int32.toInt64 8 &&& 63)), .ref 69]) (z := pkw F0 n (q + m)) rfl rfl rfl (g_peek (F0 := F0) (p := q + m) (n := n) hGG (g4) (g3) (by omega) (by omega) (fun q => hBG _)) ?_
        refine Pv.i2l (z := Int32.toInt64 (pkw F0 n (q + m))) rfl (rfl) ?_
        refine Pv.lbin (z := (w <<< (Int32.toInt64 8 &&& 63)) ||| (Int32.toInt64 (pkw F0 n (q + m)))) rfl (rfl) ?_
        refine Pv.putL rfl rfl ?_
        refine Pv.aload rfl rfl ?_
        refine Pv.getI (z := Int32.ofNat m) rfl rfl ((fpl_i).trans (g13)) ?_
        refine Pv.lit rfl ?_
        refine Pv.icmp rfl (fun c9 => ?_) (fun c9 => ?_)
        · skip
          replace c9 := (i_le (a := 3) (b := m) (by omega) (by omega)).mp (of_decide_eq_true c9)
          refine Pv.aload rfl rfl ?_
          refine Pv.dup rfl ?_
          refine Pv.getI (z := Int32.ofNat m) rfl rfl ((fpl_i).trans (g13)) ?_
          refine Pv.lit rfl ?_
          refine Pv.bin (z := Int32.ofNat (m + 1)) rfl (i_add m 1) ?_
          refine Pv.putI rfl rfl ?_
          refine Pv.aload rfl rfl ?_
          refine Pv.dup rfl ?_
          refine Pv.getI (z := Int32.ofNat (q + m)) rfl rfl ((fp_ne (Or.inr (by decide))).trans ((fpl_i).trans (g4))) ?_
          refine Pv.lit rfl ?_
          refine Pv.bin (z := Int32.ofNat ((q + m) + 1)) rfl (i_add (q + m) 1) ?_
          refine Pv.putI rfl rfl ?_
          refine Pv.goto rfl ?_
          exact ih4 (0, (fp (fp (fpl G 69 17 ((w <<< (Int32.toInt64 8 &&& 63)) ||| (Int32.toInt64 (pkw F0 n (q + m))))) 69 13 (Int32.ofNat (m + 1))) 69 4 (Int32.ofNat ((q + m) + 1))), (m + 1), x, (w <<< (Int32.toInt64 8 &&& 63)) ||| (Int32.toInt64 (pkw F0 n (q + m)))) (⟨by omega, (RNX.fp (RNX.fp (RNX.fl hxG) (Or.inr (Or.inr (Or.inr (Or.inl rfl))))) (Or.inl rfl)), (fun y my => hGG y my), fun k => (fp_ne (Or.inl (by decide))).trans ((fp_ne (Or.inl (by decide))).trans ((fpl_i).trans (hBG _))), (fp_ne (Or.inr (by decide))).trans ((fp_ne (Or.inr (by decide))).trans ((fpl_i).trans (g3))), (fp_eq), (fp_ne (Or.inr (by decide))).trans ((fp_ne (Or.inr (by decide))).trans ((fpl_i).trans (g12))), (fp_ne (Or.inr (by decide))).trans (fp_eq), (fp_ne (Or.inr (by decide))).trans ((fp_ne (Or.inr (by decide))).trans ((fpl_i).trans (g14))), (fp_l).trans ((fp_l).trans (fpl_eq)), (congrArg (tk_e tk_r (RBF F0 n) n) (Nat.add_assoc q m 1).symm).trans ((tk_go hq1 hr).symm.trans hrun), all_z (ha.symm.trans c6), fun h => or8 (RB_b F0 n) (hw7 (by omega)) (by omega) (pkw_to hq1), fun h1 h2 => absurd h2 (by omega)⟩)
        · skip
          replace c9 := mt (i_le (a := 3) (b := m) (by omega) (by omega)).mpr (of_decide_eq_false c9)
          refine Pv.aload rfl rfl ?_
          refine Pv.lit rfl ?_
          refine Pv.aload rfl rfl ?_
          refine Pv.getI (z := x) rfl rfl ((fpl_i).trans (g14)) ?_
          refine Pv.bin (z := 10 * x) rfl (rfl) ?_
          refine Pv.aload rfl rfl ?_
          refine Pv.callVI (as := [.ref 69]) (rest := [.int (10 * x), .ref 69]) (z := pkw F0 n (q + m)) rfl rfl rfl (g_peek (F0 := F0) (p := q + m) (n := n) (hGG.fx (P := fun _ => True) (((FX.rf (P := fun _ => True))).fpl trivial)) ((fpl_i).trans (g4)) ((fpl_i).trans (g3)) (by omega) (by omega) (fun q => (fpl_i).trans (hBG _))) ?_
          refine Pv.bin (z := (10 * x) + (pkw F0 n (q + m))) rfl (rfl) ?_
          refine Pv.lit rfl ?_
          refine Pv.bin (z := ((10 * x) + (pkw F0 n (q + m))) - 48) rfl (rfl) ?_
          refine Pv.putI rfl rfl ?_
          refine Pv.aload rfl rfl ?_
          refine Pv.dup rfl ?_
          refine Pv.getI (z := Int32.ofNat m) rfl rfl ((fp_ne (Or.inr (by decide))).trans ((fpl_i).trans (g13))) ?_
          refine Pv.lit rfl ?_
          refine Pv.bin (z := Int32.ofNat (m + 1)) rfl (i_add m 1) ?_
          refine Pv.putI rfl rfl ?_
          refine Pv.aload rfl rfl ?_
          refine Pv.dup rfl ?_
          refine Pv.getI (z := Int32.ofNat (q + m)) rfl rfl ((fp_ne (Or.inr (by decide))).trans ((fp_ne (Or.inr (by decide))).trans ((fpl_i).trans (g4)))) ?_
          refine Pv.lit rfl ?_
          refine Pv.bin (z := Int32.ofNat ((q + m) + 1)) rfl (i_add (q + m) 1) ?_
          refine Pv.putI rfl rfl ?_
          refine Pv.goto rfl ?_
          exact ih4 (0, (fp (fp (fp (fpl G 69 17 ((w <<< (Int32.toInt64 8 &&& 63)) ||| (Int32.toInt64 (pkw F0 n (q + m))))) 69 14 (((10 * x) + (pkw F0 n (q + m))) - 48)) 69 13 (Int32.ofNat (m + 1))) 69 4 (Int32.ofNat ((q + m) + 1))), (m + 1), ((10 * x) + (pkw F0 n (q + m))) - 48, (w <<< (Int32.toInt64 8 &&& 63)) ||| (Int32.toInt64 (pkw F0 n (q + m)))) (⟨by omega, (RNX.fp (RNX.fp (RNX.fp (RNX.fl hxG) (Or.inr (Or.inr (Or.inr (Or.inr rfl))))) (Or.inr (Or.inr (Or.inr (Or.inl rfl))))) (Or.inl rfl)), (fun y my => hGG y my), fun k => (fp_ne (Or.inl (by decide))).trans ((fp_ne (Or.inl (by decide))).trans ((fp_ne (Or.inl (by decide))).trans ((fpl_i).trans (hBG _)))), (fp_ne (Or.inr (by decide))).trans ((fp_ne (Or.inr (by decide))).trans ((fp_ne (Or.inr (by decide))).trans ((fpl_i).trans (g3)))), (fp_eq), (fp_ne (Or.inr (by decide))).trans ((fp_ne (Or.inr (by decide))).trans ((fp_ne (Or.inr (by decide))).trans ((fpl_i).trans (g12)))), (fp_ne (Or.inr (by decide))).trans (fp_eq), (fp_ne (Or.inr (by decide))).trans ((fp_ne (Or.inr (by decide))).trans (fp_eq)), (fp_l).trans ((fp_l).trans ((fp_l).trans (fpl_eq))), (congrArg (tk_e tk_r (RBF F0 n) n) (Nat.add_assoc q m 1).symm).trans ((tk_go hq1 hr).symm.trans hrun), all_z (ha.symm.trans c6), fun h => or8 (RB_b F0 n) (hw7 (by omega)) (by omega) (pkw_to hq1), fun h1 h2 => num3 (hx3 (all_1 h1) (by omega)) (all_1 h1) (by omega) (pkw_to hq1) (RB_b F0 n)⟩)
    · skip
      replace c6 := of_decide_eq_false c6
      refine Pv.aload rfl rfl ?_
      refine Pv.callVI (as := [.ref 69]) (rest := []) (z := pkw F0 n (q + m)) rfl rfl rfl (g_peek (F0 := F0) (p := q + m) (n := n) hGG (g4) (g3) (by omega) (by omega) (fun q => hBG _)) ?_
      refine Pv.callI (as := [.int (pkw F0 n (q + m))]) (rest := []) (z := b2i (smL (pkw F0 n (q + m)))) rfl rfl rfl (g_isSmall (pkw F0 n (q + m))) ?_
      rw [show (b2i (smL (pkw F0 n (q + m)))) = b2i (tk_l ((RBF F0 n) (q + m))) from congrArg b2i (sm_eq hq1)]
      refine Pv.iload rfl rfl ?_
      refine Pv.icmp rfl (fun c10 => ?_) (fun c10 => ?_)
      · skip
        replace c10 : decide (b2i (tk_l ((RBF F0 n) (q + m))) = b2i sm) = false := by simpa using c10
        replace c10 := of_decide_eq_false c10
        refine Pv.lit rfl ?_
        refine Pv.istore (lo' := [some (.ref 69), o, some (.int (b2i sm)), some (.int 0)]) rfl rfl ?_
        refine Pv.aload rfl rfl ?_
        refine Pv.getI (z := Int32.ofNat m) rfl rfl (g13) ?_
        refine Pv.lit rfl ?_
        refine Pv.icmp rfl (fun c11 => ?_) (fun c11 => ?_)
        · skip
          replace c11 := (i_le (a := 7) (b := m) (by omega) (by omega)).mp (of_decide_eq_true c11)
          refine Pv.aload rfl rfl ?_
          refine Pv.getI (z := Int32.ofNat m) rfl rfl (g13) ?_
          refine Pv.lit rfl ?_
          refine Pv.icmp rfl (fun c12 => ?_) (fun c12 => ?_)
          · skip
            replace c12 := (i_le (a := 3) (b := m) (by omega) (by omega)).mp (of_decide_eq_true c12)
            refine Pv.aload rfl rfl ?_
            refine Pv.dup rfl ?_
            refine Pv.getI (z := Int32.ofNat m) rfl rfl (g13) ?_
            refine Pv.lit rfl ?_
            refine Pv.bin (z := Int32.ofNat (m + 1)) rfl (i_add m 1) ?_
            refine Pv.putI rfl rfl ?_
            refine Pv.aload rfl rfl ?_
            refine Pv.dup rfl ?_
            refine Pv.getI (z := Int32.ofNat (q + m)) rfl rfl ((fp_ne (Or.inr (by decide))).trans (g4)) ?_
            refine Pv.lit rfl ?_
            refine Pv.bin (z := Int32.ofNat ((q + m) + 1)) rfl (i_add (q + m) 1) ?_
            refine Pv.putI rfl rfl ?_
            refine Pv.goto rfl ?_
            exact ih4 (0, (fp (fp G 69 13 (Int32.ofNat (m + 1))) 69 4 (Int32.ofNat ((q + m) + 1))), (m + 1), x, w) (⟨by omega, (RNX.fp (RNX.fp hxG (Or.inr (Or.inr (Or.inr (Or.inl rfl))))) (Or.inl rfl)), (fun y my => hGG y my), fun k => (fp_ne (Or.inl (by decide))).trans ((fp_ne (Or.inl (by decide))).trans (hBG _)), (fp_ne (Or.inr (by decide))).trans ((fp_ne (Or.inr (by decide))).trans (g3)), (fp_eq), (fp_ne (Or.inr (by decide))).trans ((fp_ne (Or.inr (by decide))).trans (g12)), (fp_ne (Or.inr (by decide))).trans (fp_eq), (fp_ne (Or.inr (by decide))).trans ((fp_ne (Or.inr (by decide))).trans (g14)), (fp_l).trans ((fp_l).trans (g17)), (congrArg (tk_e tk_r (RBF F0 n) n) (Nat.add_assoc q m 1).symm).trans ((tk_go hq1 hr).symm.trans hrun), all_n hr (fun e => c10 (congrArg b2i e)), fun h => absurd h (by omega), fun h1 h2 => absurd h2 (by omega)⟩)
          · skip
            replace c12 := mt (i_le (a := 3) (b := m) (by omega) (by omega)).mpr (of_decide_eq_false c12)
            refine Pv.aload rfl rfl ?_
            refine Pv.lit rfl ?_
            refine Pv.aload rfl rfl ?_
            refine Pv.getI (z := x) rfl rfl (g14) ?_
            refine Pv.bin (z := 10 * x) rfl (rfl) ?_
            refine Pv.aload rfl rfl ?_
            refine Pv.callVI (as := [.ref 69]) (rest := [.int (10 * x), .ref 69]) (z := pkw F0 n (q + m)) rfl rfl rfl (g_peek (F0 := F0) (p := q + m) (n := n) hGG (g4) (g3) (by omega) (by omega) (fun q => hBG _)) ?_
            refine Pv.bin (z := (10 * x) + (pkw F0 n (q + m))) rfl (rfl) ?_
            refine Pv.lit rfl ?_
            refine Pv.bin (z := ((10 * x) + (pkw F0 n (q + m))) - 48) rfl (rfl) ?_
            refine Pv.putI rfl rfl ?_
            refine Pv.aload rfl rfl ?_
            refine Pv.dup rfl ?_
            refine Pv.getI (z := Int32.ofNat m) rfl rfl ((fp_ne (Or.inr (by decide))).trans (g13)) ?_
            refine Pv.lit rfl ?_
            refine Pv.bin (z := Int32.ofNat (m + 1)) rfl (i_add m 1) ?_
            refine Pv.putI rfl rfl ?_
            refine Pv.aload rfl rfl ?_
            refine Pv.dup rfl ?_
            refine Pv.getI (z := Int32.ofNat (q + m)) rfl rfl ((fp_ne (Or.inr (by decide))).trans ((fp_ne (Or.inr (by decide))).trans (g4))) ?_
            refine Pv.lit rfl ?_
            refine Pv.bin (z := Int32.ofNat ((q + m) + 1)) rfl (i_add (q + m) 1) ?_
            refine Pv.putI rfl rfl ?_
            refine Pv.goto rfl ?_
            exact ih4 (0, (fp (fp (fp G 69 14 (((10 * x) + (pkw F0 n (q + m))) - 48)) 69 13 (Int32.ofNat (m + 1))) 69 4 (Int32.ofNat ((q + m) + 1))), (m + 1), ((10 * x) + (pkw F0 n (q + m))) - 48, w) (⟨by omega, (RNX.fp (RNX.fp (RNX.fp hxG (Or.inr (Or.inr (Or.inr (Or.inr rfl))))) (Or.inr (Or.inr (Or.inr (Or.inl rfl))))) (Or.inl rfl)), (fun y my => hGG y my), fun k => (fp_ne (Or.inl (by decide))).trans ((fp_ne (Or.inl (by decide))).trans ((fp_ne (Or.inl (by decide))).trans (hBG _))), (fp_ne (Or.inr (by decide))).trans ((fp_ne (Or.inr (by decide))).trans ((fp_ne (Or.inr (by decide))).trans (g3))), (fp_eq), (fp_ne (Or.inr (by decide))).trans ((fp_ne (Or.inr (by decide))).trans ((fp_ne (Or.inr (by decide))).trans (g12))), (fp_ne (Or.inr (by decide))).trans (fp_eq), (fp_ne (Or.inr (by decide))).trans ((fp_ne (Or.inr (by decide))).trans (fp_eq)), (fp_l).trans ((fp_l).trans ((fp_l).trans (g17))), (congrArg (tk_e tk_r (RBF F0 n) n) (Nat.add_assoc q m 1).symm).trans ((tk_go hq1 hr).symm.trans hrun), all_n hr (fun e => c10 (congrArg b2i e)), fun h => absurd h (by omega), fun h1 h2 => num3 (hx3 (all_1 h1) (by omega)) (all_1 h1) (by omega) (pkw_to hq1) (RB_b F0 n)⟩)
        · skip
          replace c11 := mt (i_le (a := 7) (b := m) (by omega) (by omega)).mpr (of_decide_eq_false c11)
          refine Pv.aload rfl rfl ?_
          refine Pv.aload rfl rfl ?_
          refine Pv.getL (z := w) rfl rfl (g17) ?_
          refine Pv.lit rfl ?_
          refine Pv.lsh (z := w <<< (Int32.toInt64 8 &&& 63)) rfl (rfl) ?_
          refine Pv.aload rfl rfl ?_
          refine Pv.callVI (as := [.ref 69]) (rest := [.long (w <<< (Int32.toInt64 8 &&& 63)), .ref 69]) (z := pkw F0 n (q + m)) rfl rfl rfl (g_peek (F0 := F0) (p := q + m) (n := n) hGG (g4) (g3) (by omega) (by omega) (fun q => hBG _)) ?_
          refine Pv.i2l (z := Int32.toInt64 (pkw F0 n (q + m))) rfl (rfl) ?_
          refine Pv.lbin (z := (w <<< (Int32.toInt64 8 &&& 63)) ||| (Int32.toInt64 (pkw F0 n (q + m)))) rfl (rfl) ?_
          refine Pv.putL rfl rfl ?_
          refine Pv.aload rfl rfl ?_
          refine Pv.getI (z := Int32.ofNat m) rfl rfl ((fpl_i).trans (g13)) ?_
          refine Pv.lit rfl ?_
          refine Pv.icmp rfl (fun c13 => ?_) (fun c13 => ?_)
          · skip
            replace c13 := (i_le (a := 3) (b := m) (by omega) (by omega)).mp (of_decide_eq_true c13)
            refine Pv.aload rfl rfl ?_
            refine Pv.dup rfl ?_
            refine Pv.getI (z := Int32.ofNat m) rfl rfl ((fpl_i).trans (g13)) ?_
            refine Pv.lit rfl ?_
            refine Pv.bin (z := Int32.ofNat (m + 1)) rfl (i_add m 1) ?_
            refine Pv.putI rfl rfl ?_
            refine Pv.aload rfl rfl ?_
            refine Pv.dup rfl ?_
            refine Pv.getI (z := Int32.ofNat (q + m)) rfl rfl ((fp_ne (Or.inr (by decide))).trans ((fpl_i).trans (g4))) ?_
            refine Pv.lit rfl ?_
            refine Pv.bin (z := Int32.ofNat ((q + m) + 1)) rfl (i_add (q + m) 1) ?_
            refine Pv.putI rfl rfl ?_
            refine Pv.goto rfl ?_
            exact ih4 (0, (fp (fp (fpl G 69 17 ((w <<< (Int32.toInt64 8 &&& 63)) ||| (Int32.toInt64 (pkw F0 n (q + m))))) 69 13 (Int32.ofNat (m + 1))) 69 4 (Int32.ofNat ((q + m) + 1))), (m + 1), x, (w <<< (Int32.toInt64 8 &&& 63)) ||| (Int32.toInt64 (pkw F0 n (q + m)))) (⟨by omega, (RNX.fp (RNX.fp (RNX.fl hxG) (Or.inr (Or.inr (Or.inr (Or.inl rfl))))) (Or.inl rfl)), (fun y my => hGG y my), fun k => (fp_ne (Or.inl (by decide))).trans ((fp_ne (Or.inl (by decide))).trans ((fpl_i).trans (hBG _))), (fp_ne (Or.inr (by decide))).trans ((fp_ne (Or.inr (by decide))).trans ((fpl_i).trans (g3))), (fp_eq), (fp_ne (Or.inr (by decide))).trans ((fp_ne (Or.inr (by decide))).trans ((fpl_i).trans (g12))), (fp_ne (Or.inr (by decide))).trans (fp_eq), (fp_ne (Or.inr (by decide))).trans ((fp_ne (Or.inr (by decide))).trans ((fpl_i).trans (g14))), (fp_l).trans ((fp_l).trans (fpl_eq)), (congrArg (tk_e tk_r (RBF F0 n) n) (Nat.add_assoc q m 1).symm).trans ((tk_go hq1 hr).symm.trans hrun), all_n hr (fun e => c10 (congrArg b2i e)), fun h => or8 (RB_b F0 n) (hw7 (by omega)) (by omega) (pkw_to hq1), fun h1 h2 => absurd h2 (by omega)⟩)
          · skip
            replace c13 := mt (i_le (a := 3) (b := m) (by omega) (by omega)).mpr (of_decide_eq_false c13)
            refine Pv.aload rfl rfl ?_
            refine Pv.lit rfl ?_
            refine Pv.aload rfl rfl ?_
            refine Pv.getI (z := x) rfl rfl ((fpl_i).trans (g14)) ?_
            refine Pv.bin (z := 10 * x) rfl (rfl) ?_
            refine Pv.aload rfl rfl ?_
            refine Pv.callVI (as := [.ref 69]) (rest := [.int (10 * x), .ref 69]) (z := pkw F0 n (q + m)) rfl rfl rfl (g_peek (F0 := F0) (p := q + m) (n := n) (hGG.fx (P := fun _ => True) (((FX.rf (P := fun _ => True))).fpl trivial)) ((fpl_i).trans (g4)) ((fpl_i).trans (g3)) (by omega) (by omega) (fun q => (fpl_i).trans (hBG _))) ?_
            refine Pv.bin (z := (10 * x) + (pkw F0 n (q + m))) rfl (rfl) ?_
            refine Pv.lit rfl ?_
            refine Pv.bin (z := ((10 * x) + (pkw F0 n (q + m))) - 48) rfl (rfl) ?_
            refine Pv.putI rfl rfl ?_
            refine Pv.aload rfl rfl ?_
            refine Pv.dup rfl ?_
            refine Pv.getI (z := Int32.ofNat m) rfl rfl ((fp_ne (Or.inr (by decide))).trans ((fpl_i).trans (g13))) ?_
            refine Pv.lit rfl ?_
            refine Pv.bin (z := Int32.ofNat (m + 1)) rfl (i_add m 1) ?_
            refine Pv.putI rfl rfl ?_
            refine Pv.aload rfl rfl ?_
            refine Pv.dup rfl ?_
            refine Pv.getI (z := Int32.ofNat (q + m)) rfl rfl ((fp_ne (Or.inr (by decide))).trans ((fp_ne (Or.inr (by decide))).trans ((fpl_i).trans (g4)))) ?_
            refine Pv.lit rfl ?_
            refine Pv.bin (z := Int32.ofNat ((q + m) + 1)) rfl (i_add (q + m) 1) ?_
            refine Pv.putI rfl rfl ?_
            refine Pv.goto rfl ?_
            exact ih4 (0, (fp (fp (fp (fpl G 69 17 ((w <<< (Int32.toInt64 8 &&& 63)) ||| (Int32.toInt64 (pkw F0 n (q + m))))) 69 14 (((10 * x) + (pkw F0 n (q + m))) - 48)) 69 13 (Int32.ofNat (m + 1))) 69 4 (Int32.ofNat ((q + m) + 1))), (m + 1), ((10 * x) + (pkw F0 n (q + m))) - 48, (w <<< (Int32.toInt64 8 &&& 63)) ||| (Int32.toInt64 (pkw F0 n (q + m)))) (⟨by omega, (RNX.fp (RNX.fp (RNX.fp (RNX.fl hxG) (Or.inr (Or.inr (Or.inr (Or.inr rfl))))) (Or.inr (Or.inr (Or.inr (Or.inl rfl))))) (Or.inl rfl)), (fun y my => hGG y my), fun k => (fp_ne (Or.inl (by decide))).trans ((fp_ne (Or.inl (by decide))).trans ((fp_ne (Or.inl (by decide))).trans ((fpl_i).trans (hBG _)))), (fp_ne (Or.inr (by decide))).trans ((fp_ne (Or.inr (by decide))).trans ((fp_ne (Or.inr (by decide))).trans ((fpl_i).trans (g3)))), (fp_eq), (fp_ne (Or.inr (by decide))).trans ((fp_ne (Or.inr (by decide))).trans ((fp_ne (Or.inr (by decide))).trans ((fpl_i).trans (g12)))), (fp_ne (Or.inr (by decide))).trans (fp_eq), (fp_ne (Or.inr (by decide))).trans ((fp_ne (Or.inr (by decide))).trans (fp_eq)), (fp_l).trans ((fp_l).trans ((fp_l).trans (fpl_eq))), (congrArg (tk_e tk_r (RBF F0 n) n) (Nat.add_assoc q m 1).symm).trans ((tk_go hq1 hr).symm.trans hrun), all_n hr (fun e => c10 (congrArg b2i e)), fun h => or8 (RB_b F0 n) (hw7 (by omega)) (by omega) (pkw_to hq1), fun h1 h2 => num3 (hx3 (all_1 h1) (by omega)) (all_1 h1) (by omega) (pkw_to hq1) (RB_b F0 n)⟩)
      · skip
        replace c10 : decide (b2i (tk_l ((RBF F0 n) (q + m))) = b2i sm) = true := by simpa using c10
        replace c10 := of_decide_eq_true c10
        refine Pv.lit rfl ?_
        refine Pv.goto rfl ?_
        refine Pv.istore (lo' := [some (.ref 69), o, some (.int (b2i sm)), some (.int 1)]) rfl rfl ?_
        refine Pv.aload rfl rfl ?_
        refine Pv.getI (z := Int32.ofNat m) rfl rfl (g13) ?_
        refine Pv.lit rfl ?_
        refine Pv.icmp rfl (fun c14 => ?_) (fun c14 => ?_)
        · skip
          replace c14 := (i_le (a := 7) (b := m) (by omega) (by omega)).mp (of_decide_eq_true c14)
          refine Pv.aload rfl rfl ?_
          refine Pv.getI (z := Int32.ofNat m) rfl rfl (g13) ?_
          refine Pv.lit rfl ?_
          refine Pv.icmp rfl (fun c15 => ?_) (fun c15 => ?_)
          · skip
            replace c15 := (i_le (a := 3) (b := m) (by omega) (by omega)).mp (of_decide_eq_true c15)
            refine Pv.aload rfl rfl ?_
            refine Pv.dup rfl ?_
            refine Pv.getI (z := Int32.ofNat m) rfl rfl (g13) ?_
            refine Pv.lit rfl ?_
            refine Pv.bin (z := Int32.ofNat (m + 1)) rfl (i_add m 1) ?_
            refine Pv.putI rfl rfl ?_
            refine Pv.aload rfl rfl ?_
            refine Pv.dup rfl ?_
            refine Pv.getI (z := Int32.ofNat (q + m)) rfl rfl ((fp_ne (Or.inr (by decide))).trans (g4)) ?_
            refine Pv.lit rfl ?_
            refine Pv.bin (z := Int32.ofNat ((q + m) + 1)) rfl (i_add (q + m) 1) ?_
            refine Pv.putI rfl rfl ?_
            refine Pv.goto rfl ?_
            exact ih4 (1, (fp (fp G 69 13 (Int32.ofNat (m + 1))) 69 4 (Int32.ofNat ((q + m) + 1))), (m + 1), x, w) (⟨by omega, (RNX.fp (RNX.fp hxG (Or.inr (Or.inr (Or.inr (Or.inl rfl))))) (Or.inl rfl)), (fun y my => hGG y my), fun k => (fp_ne (Or.inl (by decide))).trans ((fp_ne (Or.inl (by decide))).trans (hBG _)), (fp_ne (Or.inr (by decide))).trans ((fp_ne (Or.inr (by decide))).trans (g3)), (fp_eq), (fp_ne (Or.inr (by decide))).trans ((fp_ne (Or.inr (by decide))).trans (g12)), (fp_ne (Or.inr (by decide))).trans (fp_eq), (fp_ne (Or.inr (by decide))).trans ((fp_ne (Or.inr (by decide))).trans (g14)), (fp_l).trans ((fp_l).trans (g17)), (congrArg (tk_e tk_r (RBF F0 n) n) (Nat.add_assoc q m 1).symm).trans ((tk_go hq1 hr).symm.trans hrun), all_y (fun e => c6 (ha.trans e)) hr (b2i_inj.mp c10), fun h => absurd h (by omega), fun h1 h2 => absurd h2 (by omega)⟩)
          · skip
            replace c15 := mt (i_le (a := 3) (b := m) (by omega) (by omega)).mpr (of_decide_eq_false c15)
            refine Pv.aload rfl rfl ?_
            refine Pv.lit rfl ?_
            refine Pv.aload rfl rfl ?_
            refine Pv.getI (z := x) rfl rfl (g14) ?_
            refine Pv.bin (z := 10 * x) rfl (rfl) ?_
            refine Pv.aload rfl rfl ?_
            refine Pv.callVI (as := [.ref 69]) (rest := [.int (10 * x), .ref 69]) (z := pkw F0 n (q + m)) rfl rfl rfl (g_peek (F0 := F0) (p := q + m) (n := n) hGG (g4) (g3) (by omega) (by omega) (fun q => hBG _)) ?_
            refine Pv.bin (z := (10 * x) + (pkw F0 n (q + m))) rfl (rfl) ?_
            refine Pv.lit rfl ?_
            refine Pv.bin (z := ((10 * x) + (pkw F0 n (q + m))) - 48) rfl (rfl) ?_
            refine Pv.putI rfl rfl ?_
            refine Pv.aload rfl rfl ?_
            refine Pv.dup rfl ?_
            refine Pv.getI (z := Int32.ofNat m) rfl rfl ((fp_ne (Or.inr (by decide))).trans (g13)) ?_
            refine Pv.lit rfl ?_
            refine Pv.bin (z := Int32.ofNat (m + 1)) rfl (i_add m 1) ?_
            refine Pv.putI rfl rfl ?_
            refine Pv.aload rfl rfl ?_
            refine Pv.dup rfl ?_
            refine Pv.getI (z := Int32.ofNat (q + m)) rfl rfl ((fp_ne (Or.inr (by decide))).trans ((fp_ne (Or.inr (by decide))).trans (g4))) ?_
            refine Pv.lit rfl ?_
            refine Pv.bin (z := Int32.ofNat ((q + m) + 1)) rfl (i_add (q + m) 1) ?_
            refine Pv.putI rfl rfl ?_
            refine Pv.goto rfl ?_
            exact ih4 (1, (fp (fp (fp G 69 14 (((10 * x) + (pkw F0 n (q + m))) - 48)) 69 13 (Int32.ofNat (m + 1))) 69 4 (Int32.ofNat ((q + m) + 1))), (m + 1), ((10 * x) + (pkw F0 n (q + m))) - 48, w) (⟨by omega, (RNX.fp (RNX.fp (RNX.fp hxG (Or.inr (Or.inr (Or.inr (Or.inr rfl))))) (Or.inr (Or.inr (Or.inr (Or.inl rfl))))) (Or.inl rfl)), (fun y my => hGG y my), fun k => (fp_ne (Or.inl (by decide))).trans ((fp_ne (Or.inl (by decide))).trans ((fp_ne (Or.inl (by decide))).trans (hBG _))), (fp_ne (Or.inr (by decide))).trans ((fp_ne (Or.inr (by decide))).trans ((fp_ne (Or.inr (by decide))).trans (g3))), (fp_eq), (fp_ne (Or.inr (by decide))).trans ((fp_ne (Or.inr (by decide))).trans ((fp_ne (Or.inr (by decide))).trans (g12))), (fp_ne (Or.inr (by decide))).trans (fp_eq), (fp_ne (Or.inr (by decide))).trans ((fp_ne (Or.inr (by decide))).trans (fp_eq)), (fp_l).trans ((fp_l).trans ((fp_l).trans (g17))), (congrArg (tk_e tk_r (RBF F0 n) n) (Nat.add_assoc q m 1).symm).trans ((tk_go hq1 hr).symm.trans hrun), all_y (fun e => c6 (ha.trans e)) hr (b2i_inj.mp c10), fun h => absurd h (by omega), fun h1 h2 => num3 (hx3 (all_1 h1) (by omega)) (all_1 h1) (by omega) (pkw_to hq1) (RB_b F0 n)⟩)
        · skip
          replace c14 := mt (i_le (a := 7) (b := m) (by omega) (by omega)).mpr (of_decide_eq_false c14)
          refine Pv.aload rfl rfl ?_
          refine Pv.aload rfl rfl ?_
          refine Pv.getL (z := w) rfl rfl (g17) ?_
          refine Pv.lit rfl ?_
          refine Pv.lsh (z := w <<< (Int32.toInt64 8 &&& 63)) rfl (rfl) ?_
          refine Pv.aload rfl rfl ?_
          refine Pv.callVI (as := [.ref 69]) (rest := [.long (w <<< (Int32.toInt64 8 &&& 63)), .ref 69]) (z := pkw F0 n (q + m)) rfl rfl rfl (g_peek (F0 := F0) (p := q + m) (n := n) hGG (g4) (g3) (by omega) (by omega) (fun q => hBG _)) ?_
          refine Pv.i2l (z := Int32.toInt64 (pkw F0 n (q + m))) rfl (rfl) ?_
          refine Pv.lbin (z := (w <<< (Int32.toInt64 8 &&& 63)) ||| (Int32.toInt64 (pkw F0 n (q + m)))) rfl (rfl) ?_
          refine Pv.putL rfl rfl ?_
          refine Pv.aload rfl rfl ?_
          refine Pv.getI (z := Int32.ofNat m) rfl rfl ((fpl_i).trans (g13)) ?_
          refine Pv.lit rfl ?_
          refine Pv.icmp rfl (fun c16 => ?_) (fun c16 => ?_)
          · skip
            replace c16 := (i_le (a := 3) (b := m) (by omega) (by omega)).mp (of_decide_eq_true c16)
            refine Pv.aload rfl rfl ?_
            refine Pv.dup rfl ?_
            refine Pv.getI (z := Int32.ofNat m) rfl rfl ((fpl_i).trans (g13)) ?_
            refine Pv.lit rfl ?_
            refine Pv.bin (z := Int32.ofNat (m + 1)) rfl (i_add m 1) ?_
            refine Pv.putI rfl rfl ?_
            refine Pv.aload rfl rfl ?_
            refine Pv.dup rfl ?_
            refine Pv.getI (z := Int32.ofNat (q + m)) rfl rfl ((fp_ne (Or.inr (by decide))).trans ((fpl_i).trans (g4))) ?_
            refine Pv.lit rfl ?_
            refine Pv.bin (z := Int32.ofNat ((q + m) + 1)) rfl (i_add (q + m) 1) ?_
            refine Pv.putI rfl rfl ?_
            refine Pv.goto rfl ?_
            exact ih4 (1, (fp (fp (fpl G 69 17 ((w <<< (Int32.toInt64 8 &&& 63)) ||| (Int32.toInt64 (pkw F0 n (q + m))))) 69 13 (Int32.ofNat (m + 1))) 69 4 (Int32.ofNat ((q + m) + 1))), (m + 1), x, (w <<< (Int32.toInt64 8 &&& 63)) ||| (Int32.toInt64 (pkw F0 n (q + m)))) (⟨by omega, (RNX.fp (RNX.fp (RNX.fl hxG) (Or.inr (Or.inr (Or.inr (Or.inl rfl))))) (Or.inl rfl)), (fun y my => hGG y my), fun k => (fp_ne (Or.inl (by decide))).trans ((fp_ne (Or.inl (by decide))).trans ((fpl_i).trans (hBG _))), (fp_ne (Or.inr (by decide))).trans ((fp_ne (Or.inr (by decide))).trans ((fpl_i).trans (g3))), (fp_eq), (fp_ne (Or.inr (by decide))).trans ((fp_ne (Or.inr (by decide))).trans ((fpl_i).trans (g12))), (fp_ne (Or.inr (by decide))).trans (fp_eq), (fp_ne (Or.inr (by decide))).trans ((fp_ne (Or.inr (by decide))).trans ((fpl_i).trans (g14))), (fp_l).trans ((fp_l).trans (fpl_eq)), (congrArg (tk_e tk_r (RBF F0 n) n) (Nat.add_assoc q m 1).symm).trans ((tk_go hq1 hr).symm.trans hrun), all_y (fun e => c6 (ha.trans e)) hr (b2i_inj.mp c10), fun h => or8 (RB_b F0 n) (hw7 (by omega)) (by omega) (pkw_to hq1), fun h1 h2 => absurd h2 (by omega)⟩)
          · skip
            replace c16 := mt (i_le (a := 3) (b := m) (by omega) (by omega)).mpr (of_decide_eq_false c16)
            refine Pv.aload rfl rfl ?_
            refine Pv.lit rfl ?_
            refine Pv.aload rfl rfl ?_
            refine Pv.getI (z := x) rfl rfl ((fpl_i).trans (g14)) ?_
            refine Pv.bin (z := 10 * x) rfl (rfl) ?_
            refine Pv.aload rfl rfl ?_
            refine Pv.callVI (as := [.ref 69]) (rest := [.int (10 * x), .ref 69]) (z := pkw F0 n (q + m)) rfl rfl rfl (g_peek (F0 := F0) (p := q + m) (n := n) (hGG.fx (P := fun _ => True) (((FX.rf (P := fun _ => True))).fpl trivial)) ((fpl_i).trans (g4)) ((fpl_i).trans (g3)) (by omega) (by omega) (fun q => (fpl_i).trans (hBG _))) ?_
            refine Pv.bin (z := (10 * x) + (pkw F0 n (q + m))) rfl (rfl) ?_
            refine Pv.lit rfl ?_
            refine Pv.bin (z := ((10 * x) + (pkw F0 n (q + m))) - 48) rfl (rfl) ?_
            refine Pv.putI rfl rfl ?_
            refine Pv.aload rfl rfl ?_
            refine Pv.dup rfl ?_
            refine Pv.getI (z := Int32.ofNat m) rfl rfl ((fp_ne (Or.inr (by decide))).trans ((fpl_i).trans (g13))) ?_
            refine Pv.lit rfl ?_
            refine Pv.bin (z := Int32.ofNat (m + 1)) rfl (i_add m 1) ?_
            refine Pv.putI rfl rfl ?_
            refine Pv.aload rfl rfl ?_
            refine Pv.dup rfl ?_
            refine Pv.getI (z := Int32.ofNat (q + m)) rfl rfl ((fp_ne (Or.inr (by decide))).trans ((fp_ne (Or.inr (by decide))).trans ((fpl_i).trans (g4)))) ?_
            refine Pv.lit rfl ?_
            refine Pv.bin (z := Int32.ofNat ((q + m) + 1)) rfl (i_add (q + m) 1) ?_
            refine Pv.putI rfl rfl ?_
            refine Pv.goto rfl ?_
            exact ih4 (1, (fp (fp (fp (fpl G 69 17 ((w <<< (Int32.toInt64 8 &&& 63)) ||| (Int32.toInt64 (pkw F0 n (q + m))))) 69 14 (((10 * x) + (pkw F0 n (q + m))) - 48)) 69 13 (Int32.ofNat (m + 1))) 69 4 (Int32.ofNat ((q + m) + 1))), (m + 1), ((10 * x) + (pkw F0 n (q + m))) - 48, (w <<< (Int32.toInt64 8 &&& 63)) ||| (Int32.toInt64 (pkw F0 n (q + m)))) (⟨by omega, (RNX.fp (RNX.fp (RNX.fp (RNX.fl hxG) (Or.inr (Or.inr (Or.inr (Or.inr rfl))))) (Or.inr (Or.inr (Or.inr (Or.inl rfl))))) (Or.inl rfl)), (fun y my => hGG y my), fun k => (fp_ne (Or.inl (by decide))).trans ((fp_ne (Or.inl (by decide))).trans ((fp_ne (Or.inl (by decide))).trans ((fpl_i).trans (hBG _)))), (fp_ne (Or.inr (by decide))).trans ((fp_ne (Or.inr (by decide))).trans ((fp_ne (Or.inr (by decide))).trans ((fpl_i).trans (g3)))), (fp_eq), (fp_ne (Or.inr (by decide))).trans ((fp_ne (Or.inr (by decide))).trans ((fp_ne (Or.inr (by decide))).trans ((fpl_i).trans (g12)))), (fp_ne (Or.inr (by decide))).trans (fp_eq), (fp_ne (Or.inr (by decide))).trans ((fp_ne (Or.inr (by decide))).trans (fp_eq)), (fp_l).trans ((fp_l).trans ((fp_l).trans (fpl_eq))), (congrArg (tk_e tk_r (RBF F0 n) n) (Nat.add_assoc q m 1).symm).trans ((tk_go hq1 hr).symm.trans hrun), all_y (fun e => c6 (ha.trans e)) hr (b2i_inj.mp c10), fun h => or8 (RB_b F0 n) (hw7 (by omega)) (by omega) (pkw_to hq1), fun h1 h2 => num3 (hx3 (all_1 h1) (by omega)) (all_1 h1) (by omega) (pkw_to hq1) (RB_b F0 n)⟩)
  · skip
    replace c5 : decide (b2i (smL (pkw F0 n (q + m))) = 0) = true := by simpa using c5
    replace c5 := of_decide_eq_true c5
    replace c5 := b2z.mp c5
    refine Pv.aload rfl rfl ?_
    refine Pv.callVI (as := [.ref 69]) (rest := []) (z := pkw F0 n (q + m)) rfl rfl rfl (g_peek (F0 := F0) (p := q + m) (n := n) hGG (g4) (g3) (by omega) (by omega) (fun q => hBG _)) ?_
    refine Pv.callI (as := [.int (pkw F0 n (q + m))]) (rest := []) (z := b2i (dgL (pkw F0 n (q + m)))) rfl rfl rfl (g_isDigit (pkw F0 n (q + m))) ?_
    refine Pv.if0 rfl (fun c17 => ?_) (fun c17 => ?_)
    · skip
      replace c17 := of_decide_eq_true c17
      replace c17 := b2z.mp c17
      have hm1 : 1 ≤ m := by
        rcases Nat.eq_zero_or_pos m with e | e
        · have z := rn_stop c5 c17
          rw [e, Nat.add_zero, hfr] at z
          rcases z with z | z
          · omega
          · cases z
        · exact e
      have EM : tk_e tk_r (RBF F0 n) n q - q = m := by rw [← hrun, tk_stop (rn_stop c5 c17)]; omega
      rw [ha]
      refine (g_nx298 (B := (RBF F0 n)) hGG hxG g4 g12 g13 g14 g17 hm1 (by omega) hsm rfl hw7 hx3 _ _).imp (fun r F' h => ?_)
      rw [hQ, EM]
      exact h
    · skip
      replace c17 := of_decide_eq_false c17
      replace c17 := b2n.mp c17
      have hq2 := dg_t c17
      have hr : tk_r ((RBF F0 n) (q + m)) = true := tk_r_d hq2.2
      have hq1 : q + m < n := hq2.1
      refine Pv.iload rfl rfl ?_
      refine Pv.if0 rfl (fun c18 => ?_) (fun c18 => ?_)
      · skip
        replace c18 := of_decide_eq_true c18
        refine Pv.lit rfl ?_
        refine Pv.istore (lo' := [some (.ref 69), o, some (.int (b2i sm)), some (.int 0)]) rfl rfl ?_
        refine Pv.aload rfl rfl ?_
        refine Pv.getI (z := Int32.ofNat m) rfl rfl (g13) ?_
        refine Pv.lit rfl ?_
        refine Pv.icmp rfl (fun c19 => ?_) (fun c19 => ?_)
        · skip
          replace c19 := (i_le (a := 7) (b := m) (by omega) (by omega)).mp (of_decide_eq_true c19)
          refine Pv.aload rfl rfl ?_
          refine Pv.getI (z := Int32.ofNat m) rfl rfl (g13) ?_
          refine Pv.lit rfl ?_
          refine Pv.icmp rfl (fun c20 => ?_) (fun c20 => ?_)
          · skip
            replace c20 := (i_le (a := 3) (b := m) (by omega) (by omega)).mp (of_decide_eq_true c20)
            refine Pv.aload rfl rfl ?_
            refine Pv.dup rfl ?_
            refine Pv.getI (z := Int32.ofNat m) rfl rfl (g13) ?_
            refine Pv.lit rfl ?_
            refine Pv.bin (z := Int32.ofNat (m + 1)) rfl (i_add m 1) ?_
            refine Pv.putI rfl rfl ?_
            refine Pv.aload rfl rfl ?_
            refine Pv.dup rfl ?_
            refine Pv.getI (z := Int32.ofNat (q + m)) rfl rfl ((fp_ne (Or.inr (by decide))).trans (g4)) ?_
            refine Pv.lit rfl ?_
            refine Pv.bin (z := Int32.ofNat ((q + m) + 1)) rfl (i_add (q + m) 1) ?_
            refine Pv.putI rfl rfl ?_
            refine Pv.goto rfl ?_
            exact ih4 (0, (fp (fp G 69 13 (Int32.ofNat (m + 1))) 69 4 (Int32.ofNat ((q + m) + 1))), (m + 1), x, w) (⟨by omega, (RNX.fp (RNX.fp hxG (Or.inr (Or.inr (Or.inr (Or.inl rfl))))) (Or.inl rfl)), (fun y my => hGG y my), fun k => (fp_ne (Or.inl (by decide))).trans ((fp_ne (Or.inl (by decide))).trans (hBG _)), (fp_ne (Or.inr (by decide))).trans ((fp_ne (Or.inr (by decide))).trans (g3)), (fp_eq), (fp_ne (Or.inr (by decide))).trans ((fp_ne (Or.inr (by decide))).trans (g12)), (fp_ne (Or.inr (by decide))).trans (fp_eq), (fp_ne (Or.inr (by decide))).trans ((fp_ne (Or.inr (by decide))).trans (g14)), (fp_l).trans ((fp_l).trans (g17)), (congrArg (tk_e tk_r (RBF F0 n) n) (Nat.add_assoc q m 1).symm).trans ((tk_go hq1 hr).symm.trans hrun), all_z (ha.symm.trans c18), fun h => absurd h (by omega), fun h1 h2 => absurd h2 (by omega)⟩)
          · skip
            replace c20 := mt (i_le (a := 3) (b := m) (by omega) (by omega)).mpr (of_decide_eq_false c20)
            refine Pv.aload rfl rfl ?_
            refine Pv.lit rfl ?_
            refine Pv.aload rfl rfl ?_
            refine Pv.getI (z := x) rfl rfl (g14) ?_
            refine Pv.bin (z := 10 * x) rfl (rfl) ?_
            refine Pv.aload rfl rfl ?_
            refine Pv.callVI (as := [.ref 69]) (rest := [.int (10 * x), .ref 69]) (z := pkw F0 n (q + m)) rfl rfl rfl (g_peek (F0 := F0) (p := q + m) (n := n) hGG (g4) (g3) (by omega) (by omega) (fun q => hBG _)) ?_
            refine Pv.bin (z := (10 * x) + (pkw F0 n (q + m))) rfl (rfl) ?_
            refine Pv.lit rfl ?_
            refine Pv.bin (z := ((10 * x) + (pkw F0 n (q + m))) - 48) rfl (rfl) ?_
            refine Pv.putI rfl rfl ?_
            refine Pv.aload rfl rfl ?_
            refine Pv.dup rfl ?_
            refine Pv.getI (z := Int32.ofNat m) rfl rfl ((fp_ne (Or.inr (by decide))).trans (g13)) ?_
            refine Pv.lit rfl ?_
            refine Pv.bin (z := Int32.ofNat (m + 1)) rfl (i_add m 1) ?_
            refine Pv.putI rfl rfl ?_
            refine Pv.aload rfl rfl ?_
            refine Pv.dup rfl ?_
            refine Pv.getI (z := Int32.ofNat (q + m)) rfl rfl ((fp_ne (Or.inr (by decide))).trans ((fp_ne (Or.inr (by decide))).trans (g4))) ?_
            refine Pv.lit rfl ?_
            refine Pv.bin (z := Int32.ofNat ((q + m) + 1)) rfl (i_add (q + m) 1) ?_
            refine Pv.putI rfl rfl ?_
            refine Pv.goto rfl ?_
            exact ih4 (0, (fp (fp (fp G 69 14 (((10 * x) + (pkw F0 n (q + m))) - 48)) 69 13 (Int32.ofNat (m + 1))) 69 4 (Int32.ofNat ((q + m) + 1))), (m + 1), ((10 * x) + (pkw F0 n (q + m))) - 48, w) (⟨by omega, (RNX.fp (RNX.fp (RNX.fp hxG (Or.inr (Or.inr (Or.inr (Or.inr rfl))))) (Or.inr (Or.inr (Or.inr (Or.inl rfl))))) (Or.inl rfl)), (fun y my => hGG y my), fun k => (fp_ne (Or.inl (by decide))).trans ((fp_ne (Or.inl (by decide))).trans ((fp_ne (Or.inl (by decide))).trans (hBG _))), (fp_ne (Or.inr (by decide))).trans ((fp_ne (Or.inr (by decide))).trans ((fp_ne (Or.inr (by decide))).trans (g3))), (fp_eq), (fp_ne (Or.inr (by decide))).trans ((fp_ne (Or.inr (by decide))).trans ((fp_ne (Or.inr (by decide))).trans (g12))), (fp_ne (Or.inr (by decide))).trans (fp_eq), (fp_ne (Or.inr (by decide))).trans ((fp_ne (Or.inr (by decide))).trans (fp_eq)), (fp_l).trans ((fp_l).trans ((fp_l).trans (g17))), (congrArg (tk_e tk_r (RBF F0 n) n) (Nat.add_assoc q m 1).symm).trans ((tk_go hq1 hr).symm.trans hrun), all_z (ha.symm.trans c18), fun h => absurd h (by omega), fun h1 h2 => num3 (hx3 (all_1 h1) (by omega)) (all_1 h1) (by omega) (pkw_to hq1) (RB_b F0 n)⟩)
        · skip
          replace c19 := mt (i_le (a := 7) (b := m) (by omega) (by omega)).mpr (of_decide_eq_false c19)
          refine Pv.aload rfl rfl ?_
          refine Pv.aload rfl rfl ?_
          refine Pv.getL (z := w) rfl rfl (g17) ?_
          refine Pv.lit rfl ?_
          refine Pv.lsh (z := w <<< (Int32.toInt64 8 &&& 63)) rfl (rfl) ?_
          refine Pv.aload rfl rfl ?_
          refine Pv.callVI (as := [.ref 69]) (rest := [.long (w <<< (Int32.toInt64 8 &&& 63)), .ref 69]) (z := pkw F0 n (q + m)) rfl rfl rfl (g_peek (F0 := F0) (p := q + m) (n := n) hGG (g4) (g3) (by omega) (by omega) (fun q => hBG _)) ?_
          refine Pv.i2l (z := Int32.toInt64 (pkw F0 n (q + m))) rfl (rfl) ?_
          refine Pv.lbin (z := (w <<< (Int32.toInt64 8 &&& 63)) ||| (Int32.toInt64 (pkw F0 n (q + m)))) rfl (rfl) ?_
          refine Pv.putL rfl rfl ?_
          refine Pv.aload rfl rfl ?_
          refine Pv.getI (z := Int32.ofNat m) rfl rfl ((fpl_i).trans (g13)) ?_
          refine Pv.lit rfl ?_
          refine Pv.icmp rfl (fun c21 => ?_) (fun c21 => ?_)
          · skip
            replace c21 := (i_le (a := 3) (b := m) (by omega) (by omega)).mp (of_decide_eq_true c21)
            refine Pv.aload rfl rfl ?_
            refine Pv.dup rfl ?_
            refine Pv.getI (z := Int32.ofNat m) rfl rfl ((fpl_i).trans (g13)) ?_
            refine Pv.lit rfl ?_
            refine Pv.bin (z := Int32.ofNat (m + 1)) rfl (i_add m 1) ?_
            refine Pv.putI rfl rfl ?_
            refine Pv.aload rfl rfl ?_
            refine Pv.dup rfl ?_
            refine Pv.getI (z := Int32.ofNat (q + m)) rfl rfl ((fp_ne (Or.inr (by decide))).trans ((fpl_i).trans (g4))) ?_
            refine Pv.lit rfl ?_
            refine Pv.bin (z := Int32.ofNat ((q + m) + 1)) rfl (i_add (q + m) 1) ?_
            refine Pv.putI rfl rfl ?_
            refine Pv.goto rfl ?_
            exact ih4 (0, (fp (fp (fpl G 69 17 ((w <<< (Int32.toInt64 8 &&& 63)) ||| (Int32.toInt64 (pkw F0 n (q + m))))) 69 13 (Int32.ofNat (m + 1))) 69 4 (Int32.ofNat ((q + m) + 1))), (m + 1), x, (w <<< (Int32.toInt64 8 &&& 63)) ||| (Int32.toInt64 (pkw F0 n (q + m)))) (⟨by omega, (RNX.fp (RNX.fp (RNX.fl hxG) (Or.inr (Or.inr (Or.inr (Or.inl rfl))))) (Or.inl rfl)), (fun y my => hGG y my), fun k => (fp_ne (Or.inl (by decide))).trans ((fp_ne (Or.inl (by decide))).trans ((fpl_i).trans (hBG _))), (fp_ne (Or.inr (by decide))).trans ((fp_ne (Or.inr (by decide))).trans ((fpl_i).trans (g3))), (fp_eq), (fp_ne (Or.inr (by decide))).trans ((fp_ne (Or.inr (by decide))).trans ((fpl_i).trans (g12))), (fp_ne (Or.inr (by decide))).trans (fp_eq), (fp_ne (Or.inr (by decide))).trans ((fp_ne (Or.inr (by decide))).trans ((fpl_i).trans (g14))), (fp_l).trans ((fp_l).trans (fpl_eq)), (congrArg (tk_e tk_r (RBF F0 n) n) (Nat.add_assoc q m 1).symm).trans ((tk_go hq1 hr).symm.trans hrun), all_z (ha.symm.trans c18), fun h => or8 (RB_b F0 n) (hw7 (by omega)) (by omega) (pkw_to hq1), fun h1 h2 => absurd h2 (by omega)⟩)
          · skip
            replace c21 := mt (i_le (a := 3) (b := m) (by omega) (by omega)).mpr (of_decide_eq_false c21)
            refine Pv.aload rfl rfl ?_
            refine Pv.lit rfl ?_
            refine Pv.aload rfl rfl ?_
            refine Pv.getI (z := x) rfl rfl ((fpl_i).trans (g14)) ?_
            refine Pv.bin (z := 10 * x) rfl (rfl) ?_
            refine Pv.aload rfl rfl ?_
            refine Pv.callVI (as := [.ref 69]) (rest := [.int (10 * x), .ref 69]) (z := pkw F0 n (q + m)) rfl rfl rfl (g_peek (F0 := F0) (p := q + m) (n := n) (hGG.fx (P := fun _ => True) (((FX.rf (P := fun _ => True))).fpl trivial)) ((fpl_i).trans (g4)) ((fpl_i).trans (g3)) (by omega) (by omega) (fun q => (fpl_i).trans (hBG _))) ?_
            refine Pv.bin (z := (10 * x) + (pkw F0 n (q + m))) rfl (rfl) ?_
            refine Pv.lit rfl ?_
            refine Pv.bin (z := ((10 * x) + (pkw F0 n (q + m))) - 48) rfl (rfl) ?_
            refine Pv.putI rfl rfl ?_
            refine Pv.aload rfl rfl ?_
            refine Pv.dup rfl ?_
            refine Pv.getI (z := Int32.ofNat m) rfl rfl ((fp_ne (Or.inr (by decide))).trans ((fpl_i).trans (g13))) ?_
            refine Pv.lit rfl ?_
            refine Pv.bin (z := Int32.ofNat (m + 1)) rfl (i_add m 1) ?_
            refine Pv.putI rfl rfl ?_
            refine Pv.aload rfl rfl ?_
            refine Pv.dup rfl ?_
            refine Pv.getI (z := Int32.ofNat (q + m)) rfl rfl ((fp_ne (Or.inr (by decide))).trans ((fp_ne (Or.inr (by decide))).trans ((fpl_i).trans (g4)))) ?_
            refine Pv.lit rfl ?_
            refine Pv.bin (z := Int32.ofNat ((q + m) + 1)) rfl (i_add (q + m) 1) ?_
            refine Pv.putI rfl rfl ?_
            refine Pv.goto rfl ?_
            exact ih4 (0, (fp (fp (fp (fpl G 69 17 ((w <<< (Int32.toInt64 8 &&& 63)) ||| (Int32.toInt64 (pkw F0 n (q + m))))) 69 14 (((10 * x) + (pkw F0 n (q + m))) - 48)) 69 13 (Int32.ofNat (m + 1))) 69 4 (Int32.ofNat ((q + m) + 1))), (m + 1), ((10 * x) + (pkw F0 n (q + m))) - 48, (w <<< (Int32.toInt64 8 &&& 63)) ||| (Int32.toInt64 (pkw F0 n (q + m)))) (⟨by omega, (RNX.fp (RNX.fp (RNX.fp (RNX.fl hxG) (Or.inr (Or.inr (Or.inr (Or.inr rfl))))) (Or.inr (Or.inr (Or.inr (Or.inl rfl))))) (Or.inl rfl)), (fun y my => hGG y my), fun k => (fp_ne (Or.inl (by decide))).trans ((fp_ne (Or.inl (by decide))).trans ((fp_ne (Or.inl (by decide))).trans ((fpl_i).trans (hBG _)))), (fp_ne (Or.inr (by decide))).trans ((fp_ne (Or.inr (by decide))).trans ((fp_ne (Or.inr (by decide))).trans ((fpl_i).trans (g3)))), (fp_eq), (fp_ne (Or.inr (by decide))).trans ((fp_ne (Or.inr (by decide))).trans ((fp_ne (Or.inr (by decide))).trans ((fpl_i).trans (g12)))), (fp_ne (Or.inr (by decide))).trans (fp_eq), (fp_ne (Or.inr (by decide))).trans ((fp_ne (Or.inr (by decide))).trans (fp_eq)), (fp_l).trans ((fp_l).trans ((fp_l).trans (fpl_eq))), (congrArg (tk_e tk_r (RBF F0 n) n) (Nat.add_assoc q m 1).symm).trans ((tk_go hq1 hr).symm.trans hrun), all_z (ha.symm.trans c18), fun h => or8 (RB_b F0 n) (hw7 (by omega)) (by omega) (pkw_to hq1), fun h1 h2 => num3 (hx3 (all_1 h1) (by omega)) (all_1 h1) (by omega) (pkw_to hq1) (RB_b F0 n)⟩)
      · skip
        replace c18 := of_decide_eq_false c18
        refine Pv.aload rfl rfl ?_
        refine Pv.callVI (as := [.ref 69]) (rest := []) (z := pkw F0 n (q + m)) rfl rfl rfl (g_peek (F0 := F0) (p := q + m) (n := n) hGG (g4) (g3) (by omega) (by omega) (fun q => hBG _)) ?_
        refine Pv.callI (as := [.int (pkw F0 n (q + m))]) (rest := []) (z := b2i (smL (pkw F0 n (q + m)))) rfl rfl rfl (g_isSmall (pkw F0 n (q + m))) ?_
        rw [show (b2i (smL (pkw F0 n (q + m)))) = b2i (tk_l ((RBF F0 n) (q + m))) from congrArg b2i (sm_eq hq1)]
        refine Pv.iload rfl rfl ?_
        refine Pv.icmp rfl (fun c22 => ?_) (fun c22 => ?_)
        · skip
          replace c22 : decide (b2i (tk_l ((RBF F0 n) (q + m))) = b2i sm) = false := by simpa using c22
          replace c22 := of_decide_eq_false c22
          refine Pv.lit rfl ?_
          refine Pv.istore (lo' := [some (.ref 69), o, some (.int (b2i sm)), some (.int 0)]) rfl rfl ?_
          refine Pv.aload rfl rfl ?_
          refine Pv.getI (z := Int32.ofNat m) rfl rfl (g13) ?_
          refine Pv.lit rfl ?_
          refine Pv.icmp rfl (fun c23 => ?_) (fun c23 => ?_)
          · skip
            replace c23 := (i_le (a := 7) (b := m) (by omega) (by omega)).mp (of_decide_eq_true c23)
            refine Pv.aload rfl rfl ?_
            refine Pv.getI (z := Int32.ofNat m) rfl rfl (g13) ?_
            refine Pv.lit rfl ?_
            refine Pv.icmp rfl (fun c24 => ?_) (fun c24 => ?_)
            · skip
              replace c24 := (i_le (a := 3) (b := m) (by omega) (by omega)).mp (of_decide_eq_true c24)
              refine Pv.aload rfl rfl ?_
              refine Pv.dup rfl ?_
              refine Pv.getI (z := Int32.ofNat m) rfl rfl (g13) ?_
              refine Pv.lit rfl ?_
              refine Pv.bin (z := Int32.ofNat (m + 1)) rfl (i_add m 1) ?_
              refine Pv.putI rfl rfl ?_
              refine Pv.aload rfl rfl ?_
              refine Pv.dup rfl ?_
              refine Pv.getI (z := Int32.ofNat (q + m)) rfl rfl ((fp_ne (Or.inr (by decide))).trans (g4)) ?_
              refine Pv.lit rfl ?_
              refine Pv.bin (z := Int32.ofNat ((q + m) + 1)) rfl (i_add (q + m) 1) ?_
              refine Pv.putI rfl rfl ?_
              refine Pv.goto rfl ?_
              exact ih4 (0, (fp (fp G 69 13 (Int32.ofNat (m + 1))) 69 4 (Int32.ofNat ((q + m) + 1))), (m + 1), x, w) (⟨by omega, (RNX.fp (RNX.fp hxG (Or.inr (Or.inr (Or.inr (Or.inl rfl))))) (Or.inl rfl)), (fun y my => hGG y my), fun k => (fp_ne (Or.inl (by decide))).trans ((fp_ne (Or.inl (by decide))).trans (hBG _)), (fp_ne (Or.inr (by decide))).trans ((fp_ne (Or.inr (by decide))).trans (g3)), (fp_eq), (fp_ne (Or.inr (by decide))).trans ((fp_ne (Or.inr (by decide))).trans (g12)), (fp_ne (Or.inr (by decide))).trans (fp_eq), (fp_ne (Or.inr (by decide))).trans ((fp_ne (Or.inr (by decide))).trans (g14)), (fp_l).trans ((fp_l).trans (g17)), (congrArg (tk_e tk_r (RBF F0 n) n) (Nat.add_assoc q m 1).symm).trans ((tk_go hq1 hr).symm.trans hrun), all_n hr (fun e => c22 (congrArg b2i e)), fun h => absurd h (by omega), fun h1 h2 => absurd h2 (by omega)⟩)
            · skip
              replace c24 := mt (i_le (a := 3) (b := m) (by omega) (by omega)).mpr (of_decide_eq_false c24)
              refine Pv.aload rfl rfl ?_
              refine Pv.lit rfl ?_
              refine Pv.aload rfl rfl ?_
              refine Pv.getI (z := x) rfl rfl (g14) ?_
              refine Pv.bin (z := 10 * x) rfl (rfl) ?_
              refine Pv.aload rfl rfl ?_
              refine Pv.callVI (as := [.ref 69]) (rest := [.int (10 * x), .ref 69]) (z := pkw F0 n (q + m)) rfl rfl rfl (g_peek (F0 := F0) (p := q + m) (n := n) hGG (g4) (g3) (by omega) (by omega) (fun q => hBG _)) ?_
              refine Pv.bin (z := (10 * x) + (pkw F0 n (q + m))) rfl (rfl) ?_
              refine Pv.lit rfl ?_
              refine Pv.bin (z := ((10 * x) + (pkw F0 n (q + m))) - 48) rfl (rfl) ?_
              refine Pv.putI rfl rfl ?_
              refine Pv.aload rfl rfl ?_
              refine Pv.dup rfl ?_
              refine Pv.getI (z := Int32.ofNat m) rfl rfl ((fp_ne (Or.inr (by decide))).trans (g13)) ?_
              refine Pv.lit rfl ?_
              refine Pv.bin (z := Int32.ofNat (m + 1)) rfl (i_add m 1) ?_
              refine Pv.putI rfl rfl ?_
              refine Pv.aload rfl rfl ?_
              refine Pv.dup rfl ?_
              refine Pv.getI (z := Int32.ofNat (q + m)) rfl rfl ((fp_ne (Or.inr (by decide))).trans ((fp_ne (Or.inr (by decide))).trans (g4))) ?_
              refine Pv.lit rfl ?_
              refine Pv.bin (z := Int32.ofNat ((q + m) + 1)) rfl (i_add (q + m) 1) ?_
              refine Pv.putI rfl rfl ?_
              refine Pv.goto rfl ?_
              exact ih4 (0, (fp (fp (fp G 69 14 (((10 * x) + (pkw F0 n (q + m))) - 48)) 69 13 (Int32.ofNat (m + 1))) 69 4 (Int32.ofNat ((q + m) + 1))), (m + 1), ((10 * x) + (pkw F0 n (q + m))) - 48, w) (⟨by omega, (RNX.fp (RNX.fp (RNX.fp hxG (Or.inr (Or.inr (Or.inr (Or.inr rfl))))) (Or.inr (Or.inr (Or.inr (Or.inl rfl))))) (Or.inl rfl)), (fun y my => hGG y my), fun k => (fp_ne (Or.inl (by decide))).trans ((fp_ne (Or.inl (by decide))).trans ((fp_ne (Or.inl (by decide))).trans (hBG _))), (fp_ne (Or.inr (by decide))).trans ((fp_ne (Or.inr (by decide))).trans ((fp_ne (Or.inr (by decide))).trans (g3))), (fp_eq), (fp_ne (Or.inr (by decide))).trans ((fp_ne (Or.inr (by decide))).trans ((fp_ne (Or.inr (by decide))).trans (g12))), (fp_ne (Or.inr (by decide))).trans (fp_eq), (fp_ne (Or.inr (by decide))).trans ((fp_ne (Or.inr (by decide))).trans (fp_eq)), (fp_l).trans ((fp_l).trans ((fp_l).trans (g17))), (congrArg (tk_e tk_r (RBF F0 n) n) (Nat.add_assoc q m 1).symm).trans ((tk_go hq1 hr).symm.trans hrun), all_n hr (fun e => c22 (congrArg b2i e)), fun h => absurd h (by omega), fun h1 h2 => num3 (hx3 (all_1 h1) (by omega)) (all_1 h1) (by omega) (pkw_to hq1) (RB_b F0 n)⟩)
          · skip
            replace c23 := mt (i_le (a := 7) (b := m) (by omega) (by omega)).mpr (of_decide_eq_false c23)
            refine Pv.aload rfl rfl ?_
            refine Pv.aload rfl rfl ?_
            refine Pv.getL (z := w) rfl rfl (g17) ?_
            refine Pv.lit rfl ?_
            refine Pv.lsh (z := w <<< (Int32.toInt64 8 &&& 63)) rfl (rfl) ?_
            refine Pv.aload rfl rfl ?_
            refine Pv.callVI (as := [.ref 69]) (rest := [.long (w <<< (Int32.toInt64 8 &&& 63)), .ref 69]) (z := pkw F0 n (q + m)) rfl rfl rfl (g_peek (F0 := F0) (p := q + m) (n := n) hGG (g4) (g3) (by omega) (by omega) (fun q => hBG _)) ?_
            refine Pv.i2l (z := Int32.toInt64 (pkw F0 n (q + m))) rfl (rfl) ?_
            refine Pv.lbin (z := (w <<< (Int32.toInt64 8 &&& 63)) ||| (Int32.toInt64 (pkw F0 n (q + m)))) rfl (rfl) ?_
            refine Pv.putL rfl rfl ?_
            refine Pv.aload rfl rfl ?_
            refine Pv.getI (z := Int32.ofNat m) rfl rfl ((fpl_i).trans (g13)) ?_
            refine Pv.lit rfl ?_
            refine Pv.icmp rfl (fun c25 => ?_) (fun c25 => ?_)
            · skip
              replace c25 := (i_le (a := 3) (b := m) (by omega) (by omega)).mp (of_decide_eq_true c25)
              refine Pv.aload rfl rfl ?_
              refine Pv.dup rfl ?_
              refine Pv.getI (z := Int32.ofNat m) rfl rfl ((fpl_i).trans (g13)) ?_
              refine Pv.lit rfl ?_
              refine Pv.bin (z := Int32.ofNat (m + 1)) rfl (i_add m 1) ?_
              refine Pv.putI rfl rfl ?_
              refine Pv.aload rfl rfl ?_
              refine Pv.dup rfl ?_
              refine Pv.getI (z := Int32.ofNat (q + m)) rfl rfl ((fp_ne (Or.inr (by decide))).trans ((fpl_i).trans (g4))) ?_
              refine Pv.lit rfl ?_
              refine Pv.bin (z := Int32.ofNat ((q + m) + 1)) rfl (i_add (q + m) 1) ?_
              refine Pv.putI rfl rfl ?_
              refine Pv.goto rfl ?_
              exact ih4 (0, (fp (fp (fpl G 69 17 ((w <<< (Int32.toInt64 8 &&& 63)) ||| (Int32.toInt64 (pkw F0 n (q + m))))) 69 13 (Int32.ofNat (m + 1))) 69 4 (Int32.ofNat ((q + m) + 1))), (m + 1), x, (w <<< (Int32.toInt64 8 &&& 63)) ||| (Int32.toInt64 (pkw F0 n (q + m)))) (⟨by omega, (RNX.fp (RNX.fp (RNX.fl hxG) (Or.inr (Or.inr (Or.inr (Or.inl rfl))))) (Or.inl rfl)), (fun y my => hGG y my), fun k => (fp_ne (Or.inl (by decide))).trans ((fp_ne (Or.inl (by decide))).trans ((fpl_i).trans (hBG _))), (fp_ne (Or.inr (by decide))).trans ((fp_ne (Or.inr (by decide))).trans ((fpl_i).trans (g3))), (fp_eq), (fp_ne (Or.inr (by decide))).trans ((fp_ne (Or.inr (by decide))).trans ((fpl_i).trans (g12))), (fp_ne (Or.inr (by decide))).trans (fp_eq), (fp_ne (Or.inr (by decide))).trans ((fp_ne (Or.inr (by decide))).trans ((fpl_i).trans (g14))), (fp_l).trans ((fp_l).trans (fpl_eq)), (congrArg (tk_e tk_r (RBF F0 n) n) (Nat.add_assoc q m 1).symm).trans ((tk_go hq1 hr).symm.trans hrun), all_n hr (fun e => c22 (congrArg b2i e)), fun h => or8 (RB_b F0 n) (hw7 (by omega)) (by omega) (pkw_to hq1), fun h1 h2 => absurd h2 (by omega)⟩)
            · skip
              replace c25 := mt (i_le (a := 3) (b := m) (by omega) (by omega)).mpr (of_decide_eq_false c25)
              refine Pv.aload rfl rfl ?_
              refine Pv.lit rfl ?_
              refine Pv.aload rfl rfl ?_
              refine Pv.getI (z := x) rfl rfl ((fpl_i).trans (g14)) ?_
              refine Pv.bin (z := 10 * x) rfl (rfl) ?_
              refine Pv.aload rfl rfl ?_
              refine Pv.callVI (as := [.ref 69]) (rest := [.int (10 * x), .ref 69]) (z := pkw F0 n (q + m)) rfl rfl rfl (g_peek (F0 := F0) (p := q + m) (n := n) (hGG.fx (P := fun _ => True) (((FX.rf (P := fun _ => True))).fpl trivial)) ((fpl_i).trans (g4)) ((fpl_i).trans (g3)) (by omega) (by omega) (fun q => (fpl_i).trans (hBG _))) ?_
              refine Pv.bin (z := (10 * x) + (pkw F0 n (q + m))) rfl (rfl) ?_
              refine Pv.lit rfl ?_
              refine Pv.bin (z := ((10 * x) + (pkw F0 n (q + m))) - 48) rfl (rfl) ?_
              refine Pv.putI rfl rfl ?_
              refine Pv.aload rfl rfl ?_
              refine Pv.dup rfl ?_
              refine Pv.getI (z := Int32.ofNat m) rfl rfl ((fp_ne (Or.inr (by decide))).trans ((fpl_i).trans (g13))) ?_
              refine Pv.lit rfl ?_
              refine Pv.bin (z := Int32.ofNat (m + 1)) rfl (i_add m 1) ?_
              refine Pv.putI rfl rfl ?_
              refine Pv.aload rfl rfl ?_
              refine Pv.dup rfl ?_
              refine Pv.getI (z := Int32.ofNat (q + m)) rfl rfl ((fp_ne (Or.inr (by decide))).trans ((fp_ne (Or.inr (by decide))).trans ((fpl_i).trans (g4)))) ?_
              refine Pv.lit rfl ?_
              refine Pv.bin (z := Int32.ofNat ((q + m) + 1)) rfl (i_add (q + m) 1) ?_
              refine Pv.putI rfl rfl ?_
              refine Pv.goto rfl ?_
              exact ih4 (0, (fp (fp (fp (fpl G 69 17 ((w <<< (Int32.toInt64 8 &&& 63)) ||| (Int32.toInt64 (pkw F0 n (q + m))))) 69 14 (((10 * x) + (pkw F0 n (q + m))) - 48)) 69 13 (Int32.ofNat (m + 1))) 69 4 (Int32.ofNat ((q + m) + 1))), (m + 1), ((10 * x) + (pkw F0 n (q + m))) - 48, (w <<< (Int32.toInt64 8 &&& 63)) ||| (Int32.toInt64 (pkw F0 n (q + m)))) (⟨by omega, (RNX.fp (RNX.fp (RNX.fp (RNX.fl hxG) (Or.inr (Or.inr (Or.inr (Or.inr rfl))))) (Or.inr (Or.inr (Or.inr (Or.inl rfl))))) (Or.inl rfl)), (fun y my => hGG y my), fun k => (fp_ne (Or.inl (by decide))).trans ((fp_ne (Or.inl (by decide))).trans ((fp_ne (Or.inl (by decide))).trans ((fpl_i).trans (hBG _)))), (fp_ne (Or.inr (by decide))).trans ((fp_ne (Or.inr (by decide))).trans ((fp_ne (Or.inr (by decide))).trans ((fpl_i).trans (g3)))), (fp_eq), (fp_ne (Or.inr (by decide))).trans ((fp_ne (Or.inr (by decide))).trans ((fp_ne (Or.inr (by decide))).trans ((fpl_i).trans (g12)))), (fp_ne (Or.inr (by decide))).trans (fp_eq), (fp_ne (Or.inr (by decide))).trans ((fp_ne (Or.inr (by decide))).trans (fp_eq)), (fp_l).trans ((fp_l).trans ((fp_l).trans (fpl_eq))), (congrArg (tk_e tk_r (RBF F0 n) n) (Nat.add_assoc q m 1).symm).trans ((tk_go hq1 hr).symm.trans hrun), all_n hr (fun e => c22 (congrArg b2i e)), fun h => or8 (RB_b F0 n) (hw7 (by omega)) (by omega) (pkw_to hq1), fun h1 h2 => num3 (hx3 (all_1 h1) (by omega)) (all_1 h1) (by omega) (pkw_to hq1) (RB_b F0 n)⟩)
        · skip
          replace c22 : decide (b2i (tk_l ((RBF F0 n) (q + m))) = b2i sm) = true := by simpa using c22
          replace c22 := of_decide_eq_true c22
          refine Pv.lit rfl ?_
          refine Pv.goto rfl ?_
          refine Pv.istore (lo' := [some (.ref 69), o, some (.int (b2i sm)), some (.int 1)]) rfl rfl ?_
          refine Pv.aload rfl rfl ?_
          refine Pv.getI (z := Int32.ofNat m) rfl rfl (g13) ?_
          refine Pv.lit rfl ?_
          refine Pv.icmp rfl (fun c26 => ?_) (fun c26 => ?_)
          · skip
            replace c26 := (i_le (a := 7) (b := m) (by omega) (by omega)).mp (of_decide_eq_true c26)
            refine Pv.aload rfl rfl ?_
            refine Pv.getI (z := Int32.ofNat m) rfl rfl (g13) ?_
            refine Pv.lit rfl ?_
            refine Pv.icmp rfl (fun c27 => ?_) (fun c27 => ?_)
            · skip
              replace c27 := (i_le (a := 3) (b := m) (by omega) (by omega)).mp (of_decide_eq_true c27)
              refine Pv.aload rfl rfl ?_
              refine Pv.dup rfl ?_
              refine Pv.getI (z := Int32.ofNat m) rfl rfl (g13) ?_
              refine Pv.lit rfl ?_
              refine Pv.bin (z := Int32.ofNat (m + 1)) rfl (i_add m 1) ?_
              refine Pv.putI rfl rfl ?_
              refine Pv.aload rfl rfl ?_
              refine Pv.dup rfl ?_
              refine Pv.getI (z := Int32.ofNat (q + m)) rfl rfl ((fp_ne (Or.inr (by decide))).trans (g4)) ?_
              refine Pv.lit rfl ?_
              refine Pv.bin (z := Int32.ofNat ((q + m) + 1)) rfl (i_add (q + m) 1) ?_
              refine Pv.putI rfl rfl ?_
              refine Pv.goto rfl ?_
              exact ih4 (1, (fp (fp G 69 13 (Int32.ofNat (m + 1))) 69 4 (Int32.ofNat ((q + m) + 1))), (m + 1), x, w) (⟨by omega, (RNX.fp (RNX.fp hxG (Or.inr (Or.inr (Or.inr (Or.inl rfl))))) (Or.inl rfl)), (fun y my => hGG y my), fun k => (fp_ne (Or.inl (by decide))).trans ((fp_ne (Or.inl (by decide))).trans (hBG _)), (fp_ne (Or.inr (by decide))).trans ((fp_ne (Or.inr (by decide))).trans (g3)), (fp_eq), (fp_ne (Or.inr (by decide))).trans ((fp_ne (Or.inr (by decide))).trans (g12)), (fp_ne (Or.inr (by decide))).trans (fp_eq), (fp_ne (Or.inr (by decide))).trans ((fp_ne (Or.inr (by decide))).trans (g14)), (fp_l).trans ((fp_l).trans (g17)), (congrArg (tk_e tk_r (RBF F0 n) n) (Nat.add_assoc q m 1).symm).trans ((tk_go hq1 hr).symm.trans hrun), all_y (fun e => c18 (ha.trans e)) hr (b2i_inj.mp c22), fun h => absurd h (by omega), fun h1 h2 => absurd h2 (by omega)⟩)
            · skip
              replace c27 := mt (i_le (a := 3) (b := m) (by omega) (by omega)).mpr (of_decide_eq_false c27)
              refine Pv.aload rfl rfl ?_
              refine Pv.lit rfl ?_
              refine Pv.aload rfl rfl ?_
              refine Pv.getI (z := x) rfl rfl (g14) ?_
              refine Pv.bin (z := 10 * x) rfl (rfl) ?_
              refine Pv.aload rfl rfl ?_
              refine Pv.callVI (as := [.ref 69]) (rest := [.int (10 * x), .ref 69]) (z := pkw F0 n (q + m)) rfl rfl rfl (g_peek (F0 := F0) (p := q + m) (n := n) hGG (g4) (g3) (by omega) (by omega) (fun q => hBG _)) ?_
              refine Pv.bin (z := (10 * x) + (pkw F0 n (q + m))) rfl (rfl) ?_
              refine Pv.lit rfl ?_
              refine Pv.bin (z := ((10 * x) + (pkw F0 n (q + m))) - 48) rfl (rfl) ?_
              refine Pv.putI rfl rfl ?_
              refine Pv.aload rfl rfl ?_
              refine Pv.dup rfl ?_
              refine Pv.getI (z := Int32.ofNat m) rfl rfl ((fp_ne (Or.inr (by decide))).trans (g13)) ?_
              refine Pv.lit rfl ?_
              refine Pv.bin (z := Int32.ofNat (m + 1)) rfl (i_add m 1) ?_
              refine Pv.putI rfl rfl ?_
              refine Pv.aload rfl rfl ?_
              refine Pv.dup rfl ?_
              refine Pv.getI (z := Int32.ofNat (q + m)) rfl rfl ((fp_ne (Or.inr (by decide))).trans ((fp_ne (Or.inr (by decide))).trans (g4))) ?_
              refine Pv.lit rfl ?_
              refine Pv.bin (z := Int32.ofNat ((q + m) + 1)) rfl (i_add (q + m) 1) ?_
              refine Pv.putI rfl rfl ?_
              refine Pv.goto rfl ?_
              exact ih4 (1, (fp (fp (fp G 69 14 (((10 * x) + (pkw F0 n (q + m))) - 48)) 69 13 (Int32.ofNat (m + 1))) 69 4 (Int32.ofNat ((q + m) + 1))), (m + 1), ((10 * x) + (pkw F0 n (q + m))) - 48, w) (⟨by omega, (RNX.fp (RNX.fp (RNX.fp hxG (Or.inr (Or.inr (Or.inr (Or.inr rfl))))) (Or.inr (Or.inr (Or.inr (Or.inl rfl))))) (Or.inl rfl)), (fun y my => hGG y my), fun k => (fp_ne (Or.inl (by decide))).trans ((fp_ne (Or.inl (by decide))).trans ((fp_ne (Or.inl (by decide))).trans (hBG _))), (fp_ne (Or.inr (by decide))).trans ((fp_ne (Or.inr (by decide))).trans ((fp_ne (Or.inr (by decide))).trans (g3))), (fp_eq), (fp_ne (Or.inr (by decide))).trans ((fp_ne (Or.inr (by decide))).trans ((fp_ne (Or.inr (by decide))).trans (g12))), (fp_ne (Or.inr (by decide))).trans (fp_eq), (fp_ne (Or.inr (by decide))).trans ((fp_ne (Or.inr (by decide))).trans (fp_eq)), (fp_l).trans ((fp_l).trans ((fp_l).trans (g17))), (congrArg (tk_e tk_r (RBF F0 n) n) (Nat.add_assoc q m 1).symm).trans ((tk_go hq1 hr).symm.trans hrun), all_y (fun e => c18 (ha.trans e)) hr (b2i_inj.mp c22), fun h => absurd h (by omega), fun h1 h2 => num3 (hx3 (all_1 h1) (by omega)) (all_1 h1) (by omega) (pkw_to hq1) (RB_b F0 n)⟩)
          · skip
            replace c26 := mt (i_le (a := 7) (b := m) (by omega) (by omega)).mpr (of_decide_eq_false c26)
            refine Pv.aload rfl rfl ?_
            refine Pv.aload rfl rfl ?_
            refine Pv.getL (z := w) rfl rfl (g17) ?_
            refine Pv.lit rfl ?_
            refine Pv.lsh (z := w <<< (Int32.toInt64 8 &&& 63)) rfl (rfl) ?_
            refine Pv.aload rfl rfl ?_
            refine Pv.callVI (as := [.ref 69]) (rest := [.long (w <<< (Int32.toInt64 8 &&& 63)), .ref 69]) (z := pkw F0 n (q + m)) rfl rfl rfl (g_peek (F0 := F0) (p := q + m) (n := n) hGG (g4) (g3) (by omega) (by omega) (fun q => hBG _)) ?_
            refine Pv.i2l (z := Int32.toInt64 (pkw F0 n (q + m))) rfl (rfl) ?_
            refine Pv.lbin (z := (w <<< (Int32.toInt64 8 &&& 63)) ||| (Int32.toInt64 (pkw F0 n (q + m)))) rfl (rfl) ?_
            refine Pv.putL rfl rfl ?_
            refine Pv.aload rfl rfl ?_
            refine Pv.getI (z := Int32.ofNat m) rfl rfl ((fpl_i).trans (g13)) ?_
            refine Pv.lit rfl ?_
            refine Pv.icmp rfl (fun c28 => ?_) (fun c28 => ?_)
            · skip
              replace c28 := (i_le (a := 3) (b := m) (by omega) (by omega)).mp (of_decide_eq_true c28)
              refine Pv.aload rfl rfl ?_
              refine Pv.dup rfl ?_
              refine Pv.getI (z := Int32.ofNat m) rfl rfl ((fpl_i).trans (g13)) ?_
              refine Pv.lit rfl ?_
              refine Pv.bin (z := Int32.ofNat (m + 1)) rfl (i_add m 1) ?_
              refine Pv.putI rfl rfl ?_
              refine Pv.aload rfl rfl ?_
              refine Pv.dup rfl ?_
              refine Pv.getI (z := Int32.ofNat (q + m)) rfl rfl ((fp_ne (Or.inr (by decide))).trans ((fpl_i).trans (g4))) ?_
              refine Pv.lit rfl ?_
              refine Pv.bin (z := Int32.ofNat ((q + m) + 1)) rfl (i_add (q + m) 1) ?_
              refine Pv.putI rfl rfl ?_
              refine Pv.goto rfl ?_
              exact ih4 (1, (fp (fp (fpl G 69 17 ((w <<< (Int32.toInt64 8 &&& 63)) ||| (Int32.toInt64 (pkw F0 n (q + m))))) 69 13 (Int32.ofNat (m + 1))) 69 4 (Int32.ofNat ((q + m) + 1))), (m + 1), x, (w <<< (Int32.toInt64 8 &&& 63)) ||| (Int32.toInt64 (pkw F0 n (q + m)))) (⟨by omega, (RNX.fp (RNX.fp (RNX.fl hxG) (Or.inr (Or.inr (Or.inr (Or.inl rfl))))) (Or.inl rfl)), (fun y my => hGG y my), fun k => (fp_ne (Or.inl (by decide))).trans ((fp_ne (Or.inl (by decide))).trans ((fpl_i).trans (hBG _))), (fp_ne (Or.inr (by decide))).trans ((fp_ne (Or.inr (by decide))).trans ((fpl_i).trans (g3))), (fp_eq), (fp_ne (Or.inr (by decide))).trans ((fp_ne (Or.inr (by decide))).trans ((fpl_i).trans (g12))), (fp_ne (Or.inr (by decide))).trans (fp_eq), (fp_ne (Or.inr (by decide))).trans ((fp_ne (Or.inr (by decide))).trans ((fpl_i).trans (g14))), (fp_l).trans ((fp_l).trans (fpl_eq)), (congrArg (tk_e tk_r (RBF F0 n) n) (Nat.add_assoc q m 1).symm).trans ((tk_go hq1 hr).symm.trans hrun), all_y (fun e => c18 (ha.trans e)) hr (b2i_inj.mp c22), fun h => or8 (RB_b F0 n) (hw7 (by omega)) (by omega) (pkw_to hq1), fun h1 h2 => absurd h2 (by omega)⟩)
            · skip
              replace c28 := mt (i_le (a := 3) (b := m) (by omega) (by omega)).mpr (of_decide_eq_false c28)
              refine Pv.aload rfl rfl ?_
              refine Pv.lit rfl ?_
              refine Pv.aload rfl rfl ?_
              refine Pv.getI (z := x) rfl rfl ((fpl_i).trans (g14)) ?_
              refine Pv.bin (z := 10 * x) rfl (rfl) ?_
              refine Pv.aload rfl rfl ?_
              refine Pv.callVI (as := [.ref 69]) (rest := [.int (10 * x), .ref 69]) (z := pkw F0 n (q + m)) rfl rfl rfl (g_peek (F0 := F0) (p := q + m) (n := n) (hGG.fx (P := fun _ => True) (((FX.rf (P := fun _ => True))).fpl trivial)) ((fpl_i).trans (g4)) ((fpl_i).trans (g3)) (by omega) (by omega) (fun q => (fpl_i).trans (hBG _))) ?_
              refine Pv.bin (z := (10 * x) + (pkw F0 n (q + m))) rfl (rfl) ?_
              refine Pv.lit rfl ?_
              refine Pv.bin (z := ((10 * x) + (pkw F0 n (q + m))) - 48) rfl (rfl) ?_
              refine Pv.putI rfl rfl ?_
              refine Pv.aload rfl rfl ?_
              refine Pv.dup rfl ?_
              refine Pv.getI (z := Int32.ofNat m) rfl rfl ((fp_ne (Or.inr (by decide))).trans ((fpl_i).trans (g13))) ?_
              refine Pv.lit rfl ?_
              refine Pv.bin (z := Int32.ofNat (m + 1)) rfl (i_add m 1) ?_
              refine Pv.putI rfl rfl ?_
              refine Pv.aload rfl rfl ?_
              refine Pv.dup rfl ?_
              refine Pv.getI (z := Int32.ofNat (q + m)) rfl rfl ((fp_ne (Or.inr (by decide))).trans ((fp_ne (Or.inr (by decide))).trans ((fpl_i).trans (g4)))) ?_
              refine Pv.lit rfl ?_
              refine Pv.bin (z := Int32.ofNat ((q + m) + 1)) rfl (i_add (q + m) 1) ?_
              refine Pv.putI rfl rfl ?_
              refine Pv.goto rfl ?_
              exact ih4 (1, (fp (fp (fp (fpl G 69 17 ((w <<< (Int32.toInt64 8 &&& 63)) ||| (Int32.toInt64 (pkw F0 n (q + m))))) 69 14 (((10 * x) + (pkw F0 n (q + m))) - 48)) 69 13 (Int32.ofNat (m + 1))) 69 4 (Int32.ofNat ((q + m) + 1))), (m + 1), ((10 * x) + (pkw F0 n (q + m))) - 48, (w <<< (Int32.toInt64 8 &&& 63)) ||| (Int32.toInt64 (pkw F0 n (q + m)))) (⟨by omega, (RNX.fp (RNX.fp (RNX.fp (RNX.fl hxG) (Or.inr (Or.inr (Or.inr (Or.inr rfl))))) (Or.inr (Or.inr (Or.inr (Or.inl rfl))))) (Or.inl rfl)), (fun y my => hGG y my), fun k => (fp_ne (Or.inl (by decide))).trans ((fp_ne (Or.inl (by decide))).trans ((fp_ne (Or.inl (by decide))).trans ((fpl_i).trans (hBG _)))), (fp_ne (Or.inr (by decide))).trans ((fp_ne (Or.inr (by decide))).trans ((fp_ne (Or.inr (by decide))).trans ((fpl_i).trans (g3)))), (fp_eq), (fp_ne (Or.inr (by decide))).trans ((fp_ne (Or.inr (by decide))).trans ((fp_ne (Or.inr (by decide))).trans ((fpl_i).trans (g12)))), (fp_ne (Or.inr (by decide))).trans (fp_eq), (fp_ne (Or.inr (by decide))).trans ((fp_ne (Or.inr (by decide))).trans (fp_eq)), (fp_l).trans ((fp_l).trans ((fp_l).trans (fpl_eq))), (congrArg (tk_e tk_r (RBF F0 n) n) (Nat.add_assoc q m 1).symm).trans ((tk_go hq1 hr).symm.trans hrun), all_y (fun e => c18 (ha.trans e)) hr (b2i_inj.mp c22), fun h => or8 (RB_b F0 n) (hw7 (by omega)) (by omega) (pkw_to hq1), fun h1 h2 => num3 (hx3 (all_1 h1) (by omega)) (all_1 h1) (by omega) (pkw_to hq1) (RB_b F0 n)⟩)
set_option maxRecDepth 100000 in
set_option maxHeartbeats 4000000 in
theorem g_next {F : FW} {n p lim : Nat} (hG : GW F) (h3 : F.1 69 3 = Int32.ofNat n) (h4 : F.1 69 4 = Int32.ofNat p) (h5 : F.1 69 5 = Int32.ofNat lim) (hn : n ≤ 940) (hpn : p ≤ n) (hl : lim ≤ 940) : Pm Z_X11_next [.ref 69] F (fun r F' => r = none ∧ RNX F F' ∧ NTF F' (tkt (RBF F n) n lim p)) := by
  refine Pm.of fun N => ?_
  obtain ⟨Q, hQ⟩ : ∃ Q : Option Value → FW → Prop, Q = (fun r F' => r = none ∧ RNX F F' ∧ NTF F' (tkt (RBF F n) n lim p)) := ⟨_, rfl⟩
  rw [← hQ]
  refine Pv.fE (G := fp F 69 4 (Int32.ofNat p)) (fp_id h4) ?_
  refine (show Pv (ab_T (L_X11_next Z_X11_peek Z_X11_isSmall Z_X11_isDigit)) N 0 [some (.ref 69), none, none, none] [] (fp F 69 4 (Int32.ofNat p)) Q from ?_)
  refine Pv.lp (ι := Nat) (lof := fun q => [some (.ref 69), none, none, none]) (Ff := fun q => (fp F 69 4 (Int32.ofNat q))) (P := fun q => p ≤ q ∧ q ≤ n ∧ tk_e tk_b (RBF F n) n q = tk_e tk_b (RBF F n) n p) ?_ p (⟨Nat.le_refl _, hpn, rfl⟩)
  rintro N1 hN2 q hi3 ih4
  refine (show Pv _ _ 0 [some (.ref 69), none, none, none] [] (fp F 69 4 (Int32.ofNat q)) Q from ?_)
  obtain ⟨hpq, hqn0, hrun⟩ := hi3
  refine Pv.aloadS rfl rfl ?_
  refine Pv.callVI (as := [.ref 69]) (rest := []) (z := pkw F n q) rfl rfl rfl (g_peek (F0 := F) (p := q) (n := n) (hG.fx (P := fun _ => True) (((FX.rf (P := fun _ => True))).fp trivial)) (fp_eq) ((fp_ne (Or.inr (by decide))).trans (h3)) (by omega) (by omega) (fun q => fp_ne (Or.inl (by decide)))) ?_
  refine Pv.lit rfl ?_
  refine Pv.icmp rfl (fun c5 => ?_) (fun c5 => ?_)
  · skip
    replace c5 := of_decide_eq_true c5
    have hqy := pkw_in c5 (by decide)
    have hby : tk_b ((RBF F n) q) = true := by rw [hqy.2]; decide
    refine Pv.aload rfl rfl ?_
    refine Pv.dup rfl ?_
    refine Pv.getI (z := Int32.ofNat q) rfl rfl (fp_eq) ?_
    refine Pv.lit rfl ?_
    refine Pv.bin (z := Int32.ofNat (q + 1)) rfl (i_add q 1) ?_
    refine Pv.putI rfl rfl ?_
    refine Pv.goto rfl ?_
    refine Pv.fE (G := fp F 69 4 (Int32.ofNat (q + 1))) (fp_fp) ?_
    exact ih4 (q + 1) (⟨by omega, by omega, (tk_go hqy.1 hby).symm.trans hrun⟩)
  · skip
    replace c5 := of_decide_eq_false c5
    refine Pv.aload rfl rfl ?_
    refine Pv.callVI (as := [.ref 69]) (rest := []) (z := pkw F n q) rfl rfl rfl (g_peek (F0 := F) (p := q) (n := n) (hG.fx (P := fun _ => True) (((FX.rf (P := fun _ => True))).fp trivial)) (fp_eq) ((fp_ne (Or.inr (by decide))).trans (h3)) (by omega) (by omega) (fun q => fp_ne (Or.inl (by decide)))) ?_
    refine Pv.lit rfl ?_
    refine Pv.icmp rfl (fun c6 => ?_) (fun c6 => ?_)
    · skip
      replace c6 : decide (pkw F n q = 10) = false := by simpa using c6
      replace c6 := of_decide_eq_false c6
      have hs : tk_e tk_b (RBF F n) n p = q := hrun.symm.trans (tk_stop (pkw_nb c5 c6))
      have ht : tkt (RBF F n) n lim p = tkq (RBF F n) n lim q := congrArg (tkq (RBF F n) n lim) hs
      refine Pv.aload rfl rfl ?_
      refine Pv.aload rfl rfl ?_
      refine Pv.getI (z := Int32.ofNat q) rfl rfl (fp_eq) ?_
      refine Pv.putI rfl rfl ?_
      refine Pv.aload rfl rfl ?_
      refine Pv.lit rfl ?_
      refine Pv.putI rfl rfl ?_
      refine Pv.aload rfl rfl ?_
      refine Pv.getI (z := Int32.ofNat n) rfl rfl ((fp_ne (Or.inr (by decide))).trans ((fp_ne (Or.inr (by decide))).trans ((fp_ne (Or.inr (by decide))).trans (h3)))) ?_
      refine Pv.aload rfl rfl ?_
      refine Pv.getI (z := Int32.ofNat lim) rfl rfl ((fp_ne (Or.inr (by decide))).trans ((fp_ne (Or.inr (by decide))).trans ((fp_ne (Or.inr (by decide))).trans (h5)))) ?_
      refine Pv.icmp rfl (fun c7 => ?_) (fun c7 => ?_)
      · skip
        replace c7 := (i_le (a := n) (b := lim) (by omega) (by omega)).mp (of_decide_eq_true c7)
        have hlim : ¬ (lim < n ∧ lim ≤ q) := by omega
        refine Pv.aload rfl rfl ?_
        refine Pv.callVI (as := [.ref 69]) (rest := []) (z := pkw F n q) rfl rfl rfl (g_peek (F0 := F) (p := q) (n := n) (hG.fx (P := fun _ => True) (((((FX.rf (P := fun _ => True))).fp trivial).fp trivial).fp trivial)) ((fp_ne (Or.inr (by decide))).trans ((fp_ne (Or.inr (by decide))).trans (fp_eq))) ((fp_ne (Or.inr (by decide))).trans ((fp_ne (Or.inr (by decide))).trans ((fp_ne (Or.inr (by decide))).trans (h3)))) (by omega) (by omega) (fun q => (fp_ne (Or.inl (by decide))).trans ((fp_ne (Or.inl (by decide))).trans (fp_ne (Or.inl (by decide)))))) ?_
        refine Pv.istore (lo' := [some (.ref 69), some (.int (pkw F n q)), none, none]) rfl rfl ?_
        refine Pv.iload rfl rfl ?_
        refine Pv.if0 rfl (fun c8 => ?_) (fun c8 => ?_)
        · skip
          replace c8 := of_decide_eq_true c8
          refine Pv.iload rfl rfl ?_
          refine Pv.callI (as := [.int (pkw F n q)]) (rest := []) (z := b2i (smL (pkw F n q))) rfl rfl rfl (g_isSmall (pkw F n q)) ?_
          refine Pv.if0 rfl (fun c9 => ?_) (fun c9 => ?_)
          · skip
            replace c9 : decide (b2i (smL (pkw F n q)) = 0) = false := by simpa using c9
            replace c9 := of_decide_eq_false c9
            replace c9 := b2n.mp c9
            refine Pv.iload rfl rfl ?_
            refine Pv.callI (as := [.int (pkw F n q)]) (rest := []) (z := b2i (smL (pkw F n q))) rfl rfl rfl (g_isSmall (pkw F n q)) ?_
            refine Pv.istore (lo' := [some (.ref 69), some (.int (pkw F n q)), some (.int (b2i (smL (pkw F n q)))), none]) rfl rfl ?_
            refine Pv.lit rfl ?_
            refine Pv.istore (lo' := [some (.ref 69), some (.int (pkw F n q)), some (.int (b2i (smL (pkw F n q)))), some (.int 1)]) rfl rfl ?_
            refine Pv.aload rfl rfl ?_
            refine Pv.lit rfl ?_
            refine Pv.putL rfl rfl ?_
            refine Pv.aload rfl rfl ?_
            refine Pv.lit rfl ?_
            refine Pv.putI rfl rfl ?_
            have hq2 := sm_t c9
            have hfr : tk_r ((RBF F n) q) = true := tk_r_l hq2.2
            have hq1 : q < n := hq2.1
            refine (g_nx181 (F0 := F) (q := q) (n := n) (sm := smL (pkw F n q)) (hG.fx (P := fun _ => True) (((((((FX.rf (P := fun _ => True))).fp trivial).fp trivial).fp trivial).fpl trivial).fp trivial)) (RNX.fp (RNX.fl (RNX.fp (RNX.fp (RNX.fp RNX.rf (Or.inl rfl)) (Or.inr (Or.inr (Or.inl rfl)))) (Or.inr (Or.inr (Or.inr (Or.inl rfl)))))) (Or.inr (Or.inr (Or.inr (Or.inr rfl))))) (fun k => (fp_ne (Or.inl (by decide))).trans ((fpl_i).trans ((fp_ne (Or.inl (by decide))).trans ((fp_ne (Or.inl (by decide))).trans (fp_ne (Or.inl (by decide))))))) ((fp_ne (Or.inr (by decide))).trans ((fpl_i).trans ((fp_ne (Or.inr (by decide))).trans ((fp_ne (Or.inr (by decide))).trans ((fp_ne (Or.inr (by decide))).trans (h3)))))) ((fp_ne (Or.inr (by decide))).trans ((fpl_i).trans ((fp_ne (Or.inr (by decide))).trans ((fp_ne (Or.inr (by decide))).trans (fp_eq))))) ((fp_ne (Or.inr (by decide))).trans ((fpl_i).trans ((fp_ne (Or.inr (by decide))).trans (fp_eq)))) ((fp_ne (Or.inr (by decide))).trans ((fpl_i).trans (fp_eq))) (fp_eq) ((fp_l).trans (fpl_eq)) hn hq1 (by rw [cls_eq _ hfr, sm_eq hq1]; exact beq_self_eq_true _) hfr _ _).imp (fun r F' h => ?_)
            rw [hQ, ht, tkq_run hlim hq1 hfr]
            exact h
          · skip
            replace c9 : decide (b2i (smL (pkw F n q)) = 0) = true := by simpa using c9
            replace c9 := of_decide_eq_true c9
            replace c9 := b2z.mp c9
            refine Pv.iload rfl rfl ?_
            refine Pv.callI (as := [.int (pkw F n q)]) (rest := []) (z := b2i (dgL (pkw F n q))) rfl rfl rfl (g_isDigit (pkw F n q)) ?_
            refine Pv.if0 rfl (fun c10 => ?_) (fun c10 => ?_)
            · skip
              replace c10 : decide (b2i (dgL (pkw F n q)) = 0) = false := by simpa using c10
              replace c10 := of_decide_eq_false c10
              replace c10 := b2n.mp c10
              refine Pv.iload rfl rfl ?_
              refine Pv.callI (as := [.int (pkw F n q)]) (rest := []) (z := b2i (smL (pkw F n q))) rfl rfl rfl (g_isSmall (pkw F n q)) ?_
              refine Pv.istore (lo' := [some (.ref 69), some (.int (pkw F n q)), some (.int (b2i (smL (pkw F n q)))), none]) rfl rfl ?_
              refine Pv.lit rfl ?_
              refine Pv.istore (lo' := [some (.ref 69), some (.int (pkw F n q)), some (.int (b2i (smL (pkw F n q)))), some (.int 1)]) rfl rfl ?_
              refine Pv.aload rfl rfl ?_
              refine Pv.lit rfl ?_
              refine Pv.putL rfl rfl ?_
              refine Pv.aload rfl rfl ?_
              refine Pv.lit rfl ?_
              refine Pv.putI rfl rfl ?_
              have hq2 := dg_t c10
              have hfr : tk_r ((RBF F n) q) = true := tk_r_d hq2.2
              have hq1 : q < n := hq2.1
              refine (g_nx181 (F0 := F) (q := q) (n := n) (sm := smL (pkw F n q)) (hG.fx (P := fun _ => True) (((((((FX.rf (P := fun _ => True))).fp trivial).fp trivial).fp trivial).fpl trivial).fp trivial)) (RNX.fp (RNX.fl (RNX.fp (RNX.fp (RNX.fp RNX.rf (Or.inl rfl)) (Or.inr (Or.inr (Or.inl rfl)))) (Or.inr (Or.inr (Or.inr (Or.inl rfl)))))) (Or.inr (Or.inr (Or.inr (Or.inr rfl))))) (fun k => (fp_ne (Or.inl (by decide))).trans ((fpl_i).trans ((fp_ne (Or.inl (by decide))).trans ((fp_ne (Or.inl (by decide))).trans (fp_ne (Or.inl (by decide))))))) ((fp_ne (Or.inr (by decide))).trans ((fpl_i).trans ((fp_ne (Or.inr (by decide))).trans ((fp_ne (Or.inr (by decide))).trans ((fp_ne (Or.inr (by decide))).trans (h3)))))) ((fp_ne (Or.inr (by decide))).trans ((fpl_i).trans ((fp_ne (Or.inr (by decide))).trans ((fp_ne (Or.inr (by decide))).trans (fp_eq))))) ((fp_ne (Or.inr (by decide))).trans ((fpl_i).trans ((fp_ne (Or.inr (by decide))).trans (fp_eq)))) ((fp_ne (Or.inr (by decide))).trans ((fpl_i).trans (fp_eq))) (fp_eq) ((fp_l).trans (fpl_eq)) hn hq1 (by rw [cls_eq _ hfr, sm_eq hq1]; exact beq_self_eq_true _) hfr _ _).imp (fun r F' h => ?_)
              rw [hQ, ht, tkq_run hlim hq1 hfr]
              exact h
            · skip
              replace c10 : decide (b2i (dgL (pkw F n q)) = 0) = true := by simpa using c10
              replace c10 := of_decide_eq_true c10
              replace c10 := b2z.mp c10
              refine Pv.aload rfl rfl ?_
              refine Pv.iload rfl rfl ?_
              refine Pv.lit rfl ?_
              refine Pv.icmp rfl (fun c11 => ?_) (fun c11 => ?_)
              · skip
                replace c11 := of_decide_eq_true c11
                refine Pv.lit rfl ?_
                refine Pv.goto rfl ?_
                refine Pv.putI rfl rfl ?_
                refine Pv.aload rfl rfl ?_
                refine Pv.iload rfl rfl ?_
                refine Pv.putI rfl rfl ?_
                refine Pv.aload rfl rfl ?_
                refine Pv.dup rfl ?_
                refine Pv.getI (z := Int32.ofNat q) rfl rfl ((fp_ne (Or.inr (by decide))).trans ((fp_ne (Or.inr (by decide))).trans ((fp_ne (Or.inr (by decide))).trans ((fp_ne (Or.inr (by decide))).trans (fp_eq))))) ?_
                refine Pv.lit rfl ?_
                refine Pv.bin (z := Int32.ofNat (q + 1)) rfl (i_add q 1) ?_
                refine Pv.putI rfl rfl ?_
                have hq1 := pkw_pos c8
                have hr0 : tk_r ((RBF F n) q) = false := tk_r_f (sm_f hq1 c9) (dg_f hq1 c10)
                have sg := sg_y hq1 c11 (Or.inl rfl)
                have TK := ht.trans (tkq_sig hlim hq1 hr0)
                exact Pv.vret rfl (by rw [hQ]; exact ⟨rfl, (RNX.fp (RNX.fp (RNX.fp (RNX.fp (RNX.fp (RNX.fp RNX.rf (Or.inl rfl)) (Or.inr (Or.inr (Or.inl rfl)))) (Or.inr (Or.inr (Or.inr (Or.inl rfl))))) (Or.inr (Or.inl rfl))) (Or.inr (Or.inr (Or.inr (Or.inr rfl))))) (Or.inl rfl)), by rw [TK]; exact ⟨(congrArg Int32.toInt ((fp_ne (Or.inr (by decide))).trans ((fp_ne (Or.inr (by decide))).trans ((fp_ne (Or.inr (by decide))).trans ((fp_ne (Or.inr (by decide))).trans (fp_eq)))))).trans (i_toInt (by omega)), fp_eq, (congrArg Int32.toInt ((fp_ne (Or.inr (by decide))).trans ((fp_ne (Or.inr (by decide))).trans (fp_eq)))).trans ((show (3 : Int32).toInt = rkk (tsg ((RBF F n) q)) by rw [sg.1, sg.2]; rfl)), fun e => absurd e (by show rkk (tsg ((RBF F n) q)) ≠ 2; rw [sg.1, sg.2]; decide), fun _ => (congrArg Int32.toInt ((fp_ne (Or.inr (by decide))).trans (fp_eq))).trans (show (pkw F n q).toInt = tsg ((RBF F n) q) by rw [sg.1, pkw_to hq1]), fun e => absurd e (by show rkk (tsg ((RBF F n) q)) ≠ 1; rw [sg.1, sg.2]; decide)⟩⟩)
              · skip
                replace c11 := of_decide_eq_false c11
                refine Pv.iload rfl rfl ?_
                refine Pv.lit rfl ?_
                refine Pv.icmp rfl (fun c12 => ?_) (fun c12 => ?_)
                · skip
                  replace c12 := of_decide_eq_true c12
                  refine Pv.lit rfl ?_
                  refine Pv.goto rfl ?_
                  refine Pv.putI rfl rfl ?_
                  refine Pv.aload rfl rfl ?_
                  refine Pv.iload rfl rfl ?_
                  refine Pv.putI rfl rfl ?_
                  refine Pv.aload rfl rfl ?_
                  refine Pv.dup rfl ?_
                  refine Pv.getI (z := Int32.ofNat q) rfl rfl ((fp_ne (Or.inr (by decide))).trans ((fp_ne (Or.inr (by decide))).trans ((fp_ne (Or.inr (by decide))).trans ((fp_ne (Or.inr (by decide))).trans (fp_eq))))) ?_
                  refine Pv.lit rfl ?_
                  refine Pv.bin (z := Int32.ofNat (q + 1)) rfl (i_add q 1) ?_
                  refine Pv.putI rfl rfl ?_
                  have hq1 := pkw_pos c8
                  have hr0 : tk_r ((RBF F n) q) = false := tk_r_f (sm_f hq1 c9) (dg_f hq1 c10)
                  have sg := sg_y hq1 c12 (Or.inr (Or.inl rfl))
                  have TK := ht.trans (tkq_sig hlim hq1 hr0)
                  exact Pv.vret rfl (by rw [hQ]; exact ⟨rfl, (RNX.fp (RNX.fp (RNX.fp (RNX.fp (RNX.fp (RNX.fp RNX.rf (Or.inl rfl)) (Or.inr (Or.inr (Or.inl rfl)))) (Or.inr (Or.inr (Or.inr (Or.inl rfl))))) (Or.inr (Or.inl rfl))) (Or.inr (Or.inr (Or.inr (Or.inr rfl))))) (Or.inl rfl)), by rw [TK]; exact ⟨(congrArg Int32.toInt ((fp_ne (Or.inr (by decide))).trans ((fp_ne (Or.inr (by decide))).trans ((fp_ne (Or.inr (by decide))).trans ((fp_ne (Or.inr (by decide))).trans (fp_eq)))))).trans (i_toInt (by omega)), fp_eq, (congrArg Int32.toInt ((fp_ne (Or.inr (by decide))).trans ((fp_ne (Or.inr (by decide))).trans (fp_eq)))).trans ((show (3 : Int32).toInt = rkk (tsg ((RBF F n) q)) by rw [sg.1, sg.2]; rfl)), fun e => absurd e (by show rkk (tsg ((RBF F n) q)) ≠ 2; rw [sg.1, sg.2]; decide), fun _ => (congrArg Int32.toInt ((fp_ne (Or.inr (by decide))).trans (fp_eq))).trans (show (pkw F n q).toInt = tsg ((RBF F n) q) by rw [sg.1, pkw_to hq1]), fun e => absurd e (by show rkk (tsg ((RBF F n) q)) ≠ 1; rw [sg.1, sg.2]; decide)⟩⟩)
                · skip
                  replace c12 := of_decide_eq_false c12
                  refine Pv.iload rfl rfl ?_
                  refine Pv.lit rfl ?_
                  refine Pv.icmp rfl (fun c13 => ?_) (fun c13 => ?_)
                  · skip
                    replace c13 := of_decide_eq_true c13
                    refine Pv.lit rfl ?_
                    refine Pv.goto rfl ?_
                    refine Pv.putI rfl rfl ?_
                    refine Pv.aload rfl rfl ?_
                    refine Pv.iload rfl rfl ?_
                    refine Pv.putI rfl rfl ?_
                    refine Pv.aload rfl rfl ?_
                    refine Pv.dup rfl ?_
                    refine Pv.getI (z := Int32.ofNat q) rfl rfl ((fp_ne (Or.inr (by decide))).trans ((fp_ne (Or.inr (by decide))).trans ((fp_ne (Or.inr (by decide))).trans ((fp_ne (Or.inr (by decide))).trans (fp_eq))))) ?_
                    refine Pv.lit rfl ?_
                    refine Pv.bin (z := Int32.ofNat (q + 1)) rfl (i_add q 1) ?_
                    refine Pv.putI rfl rfl ?_
                    have hq1 := pkw_pos c8
                    have hr0 : tk_r ((RBF F n) q) = false := tk_r_f (sm_f hq1 c9) (dg_f hq1 c10)
                    have sg := sg_y hq1 c13 (Or.inr (Or.inr (Or.inl rfl)))
                    have TK := ht.trans (tkq_sig hlim hq1 hr0)
                    exact Pv.vret rfl (by rw [hQ]; exact ⟨rfl, (RNX.fp (RNX.fp (RNX.fp (RNX.fp (RNX.fp (RNX.fp RNX.rf (Or.inl rfl)) (Or.inr (Or.inr (Or.inl rfl)))) (Or.inr (Or.inr (Or.inr (Or.inl rfl))))) (Or.inr (Or.inl rfl))) (Or.inr (Or.inr (Or.inr (Or.inr rfl))))) (Or.inl rfl)), by rw [TK]; exact ⟨(congrArg Int32.toInt ((fp_ne (Or.inr (by decide))).trans ((fp_ne (Or.inr (by decide))).trans ((fp_ne (Or.inr (by decide))).trans ((fp_ne (Or.inr (by decide))).trans (fp_eq)))))).trans (i_toInt (by omega)), fp_eq, (congrArg Int32.toInt ((fp_ne (Or.inr (by decide))).trans ((fp_ne (Or.inr (by decide))).trans (fp_eq)))).trans ((show (3 : Int32).toInt = rkk (tsg ((RBF F n) q)) by rw [sg.1, sg.2]; rfl)), fun e => absurd e (by show rkk (tsg ((RBF F n) q)) ≠ 2; rw [sg.1, sg.2]; decide), fun _ => (congrArg Int32.toInt ((fp_ne (Or.inr (by decide))).trans (fp_eq))).trans (show (pkw F n q).toInt = tsg ((RBF F n) q) by rw [sg.1, pkw_to hq1]), fun e => absurd e (by show rkk (tsg ((RBF F n) q)) ≠ 1; rw [sg.1, sg.2]; decide)⟩⟩)
                  · skip
                    replace c13 := of_decide_eq_false c13
                    refine Pv.iload rfl rfl ?_
                    refine Pv.lit rfl ?_
                    refine Pv.icmp rfl (fun c14 => ?_) (fun c14 => ?_)
                    · skip
                      replace c14 := of_decide_eq_true c14
                      refine Pv.lit rfl ?_
                      refine Pv.putI rfl rfl ?_
                      refine Pv.aload rfl rfl ?_
                      refine Pv.iload rfl rfl ?_
                      refine Pv.putI rfl rfl ?_
                      refine Pv.aload rfl rfl ?_
                      refine Pv.dup rfl ?_
                      refine Pv.getI (z := Int32.ofNat q) rfl rfl ((fp_ne (Or.inr (by decide))).trans ((fp_ne (Or.inr (by decide))).trans ((fp_ne (Or.inr (by decide))).trans ((fp_ne (Or.inr (by decide))).trans (fp_eq))))) ?_
                      refine Pv.lit rfl ?_
                      refine Pv.bin (z := Int32.ofNat (q + 1)) rfl (i_add q 1) ?_
                      refine Pv.putI rfl rfl ?_
                      have hq1 := pkw_pos c8
                      have hr0 : tk_r ((RBF F n) q) = false := tk_r_f (sm_f hq1 c9) (dg_f hq1 c10)
                      have sg := sg_n hq1 c11 c12 c13 (Or.inl c14)
                      have TK := ht.trans (tkq_sig hlim hq1 hr0)
                      exact Pv.vret rfl (by rw [hQ]; exact ⟨rfl, (RNX.fp (RNX.fp (RNX.fp (RNX.fp (RNX.fp (RNX.fp RNX.rf (Or.inl rfl)) (Or.inr (Or.inr (Or.inl rfl)))) (Or.inr (Or.inr (Or.inr (Or.inl rfl))))) (Or.inr (Or.inl rfl))) (Or.inr (Or.inr (Or.inr (Or.inr rfl))))) (Or.inl rfl)), by rw [TK]; exact ⟨(congrArg Int32.toInt ((fp_ne (Or.inr (by decide))).trans ((fp_ne (Or.inr (by decide))).trans ((fp_ne (Or.inr (by decide))).trans ((fp_ne (Or.inr (by decide))).trans (fp_eq)))))).trans (i_toInt (by omega)), fp_eq, (congrArg Int32.toInt ((fp_ne (Or.inr (by decide))).trans ((fp_ne (Or.inr (by decide))).trans (fp_eq)))).trans ((show (4 : Int32).toInt = rkk (tsg ((RBF F n) q)) by rw [sg]; rfl)), fun e => absurd e (by show rkk (tsg ((RBF F n) q)) ≠ 2; rw [sg]; decide), fun e => absurd e (by show rkk (tsg ((RBF F n) q)) ≠ 3; rw [sg]; decide), fun e => absurd e (by show rkk (tsg ((RBF F n) q)) ≠ 1; rw [sg]; decide)⟩⟩)
                    · skip
                      replace c14 := of_decide_eq_false c14
                      refine Pv.iload rfl rfl ?_
                      refine Pv.lit rfl ?_
                      refine Pv.icmp rfl (fun c15 => ?_) (fun c15 => ?_)
                      · skip
                        replace c15 := of_decide_eq_true c15
                        refine Pv.lit rfl ?_
                        refine Pv.putI rfl rfl ?_
                        refine Pv.aload rfl rfl ?_
                        refine Pv.iload rfl rfl ?_
                        refine Pv.putI rfl rfl ?_
                        refine Pv.aload rfl rfl ?_
                        refine Pv.dup rfl ?_
                        refine Pv.getI (z := Int32.ofNat q) rfl rfl ((fp_ne (Or.inr (by decide))).trans ((fp_ne (Or.inr (by decide))).trans ((fp_ne (Or.inr (by decide))).trans ((fp_ne (Or.inr (by decide))).trans (fp_eq))))) ?_
                        refine Pv.lit rfl ?_
                        refine Pv.bin (z := Int32.ofNat (q + 1)) rfl (i_add q 1) ?_
                        refine Pv.putI rfl rfl ?_
                        have hq1 := pkw_pos c8
                        have hr0 : tk_r ((RBF F n) q) = false := tk_r_f (sm_f hq1 c9) (dg_f hq1 c10)
                        have sg := sg_n hq1 c11 c12 c13 (Or.inr c15)
                        have TK := ht.trans (tkq_sig hlim hq1 hr0)
                        exact Pv.vret rfl (by rw [hQ]; exact ⟨rfl, (RNX.fp (RNX.fp (RNX.fp (RNX.fp (RNX.fp (RNX.fp RNX.rf (Or.inl rfl)) (Or.inr (Or.inr (Or.inl rfl)))) (Or.inr (Or.inr (Or.inr (Or.inl rfl))))) (Or.inr (Or.inl rfl))) (Or.inr (Or.inr (Or.inr (Or.inr rfl))))) (Or.inl rfl)), by rw [TK]; exact ⟨(congrArg Int32.toInt ((fp_ne (Or.inr (by decide))).trans ((fp_ne (Or.inr (by decide))).trans ((fp_ne (Or.inr (by decide))).trans ((fp_ne (Or.inr (by decide))).trans (fp_eq)))))).trans (i_toInt (by omega)), fp_eq, (congrArg Int32.toInt ((fp_ne (Or.inr (by decide))).trans ((fp_ne (Or.inr (by decide))).trans (fp_eq)))).trans ((show (4 : Int32).toInt = rkk (tsg ((RBF F n) q)) by rw [sg]; rfl)), fun e => absurd e (by show rkk (tsg ((RBF F n) q)) ≠ 2; rw [sg]; decide), fun e => absurd e (by show rkk (tsg ((RBF F n) q)) ≠ 3; rw [sg]; decide), fun e => absurd e (by show rkk (tsg ((RBF F n) q)) ≠ 1; rw [sg]; decide)⟩⟩)
                      · skip
                        replace c15 := of_decide_eq_false c15
                        refine Pv.lit rfl ?_
                        refine Pv.goto rfl ?_
                        refine Pv.putI rfl rfl ?_
                        refine Pv.aload rfl rfl ?_
                        refine Pv.iload rfl rfl ?_
                        refine Pv.putI rfl rfl ?_
                        refine Pv.aload rfl rfl ?_
                        refine Pv.dup rfl ?_
                        refine Pv.getI (z := Int32.ofNat q) rfl rfl ((fp_ne (Or.inr (by decide))).trans ((fp_ne (Or.inr (by decide))).trans ((fp_ne (Or.inr (by decide))).trans ((fp_ne (Or.inr (by decide))).trans (fp_eq))))) ?_
                        refine Pv.lit rfl ?_
                        refine Pv.bin (z := Int32.ofNat (q + 1)) rfl (i_add q 1) ?_
                        refine Pv.putI rfl rfl ?_
                        have hq1 := pkw_pos c8
                        have hr0 : tk_r ((RBF F n) q) = false := tk_r_f (sm_f hq1 c9) (dg_f hq1 c10)
                        have sg := sg_3 hq1 c14 c15
                        have TK := ht.trans (tkq_sig hlim hq1 hr0)
                        exact Pv.vret rfl (by rw [hQ]; exact ⟨rfl, (RNX.fp (RNX.fp (RNX.fp (RNX.fp (RNX.fp (RNX.fp RNX.rf (Or.inl rfl)) (Or.inr (Or.inr (Or.inl rfl)))) (Or.inr (Or.inr (Or.inr (Or.inl rfl))))) (Or.inr (Or.inl rfl))) (Or.inr (Or.inr (Or.inr (Or.inr rfl))))) (Or.inl rfl)), by rw [TK]; exact ⟨(congrArg Int32.toInt ((fp_ne (Or.inr (by decide))).trans ((fp_ne (Or.inr (by decide))).trans ((fp_ne (Or.inr (by decide))).trans ((fp_ne (Or.inr (by decide))).trans (fp_eq)))))).trans (i_toInt (by omega)), fp_eq, (congrArg Int32.toInt ((fp_ne (Or.inr (by decide))).trans ((fp_ne (Or.inr (by decide))).trans (fp_eq)))).trans ((show (3 : Int32).toInt = rkk (tsg ((RBF F n) q)) by rw [sg.1, sg.2]; rfl)), fun e => absurd e (by show rkk (tsg ((RBF F n) q)) ≠ 2; rw [sg.1, sg.2]; decide), fun _ => (congrArg Int32.toInt ((fp_ne (Or.inr (by decide))).trans (fp_eq))).trans (show (pkw F n q).toInt = tsg ((RBF F n) q) by rw [sg.1, pkw_to hq1]), fun e => absurd e (by show rkk (tsg ((RBF F n) q)) ≠ 1; rw [sg.1, sg.2]; decide)⟩⟩)
        · skip
          replace c8 := of_decide_eq_false c8
          refine Pv.aload rfl rfl ?_
          refine Pv.lit rfl ?_
          refine Pv.putI rfl rfl ?_
          have hnq : q = n := by have := pkw_neg c8; omega
          have TK := ht.trans (tkq_end hlim (by omega))
          exact Pv.vret rfl (by rw [hQ]; exact ⟨rfl, (RNX.fp (RNX.fp (RNX.fp (RNX.fp RNX.rf (Or.inl rfl)) (Or.inr (Or.inr (Or.inl rfl)))) (Or.inr (Or.inr (Or.inr (Or.inl rfl))))) (Or.inr (Or.inl rfl))), by rw [TK]; exact ⟨(congrArg Int32.toInt ((fp_ne (Or.inr (by decide))).trans ((fp_ne (Or.inr (by decide))).trans (fp_eq)))).trans ((i_toInt (by omega)).trans (congrArg Int.ofNat hnq)), (fp_ne (Or.inr (by decide))).trans ((fp_ne (Or.inr (by decide))).trans ((fp_ne (Or.inr (by decide))).trans (fp_eq))), (congrArg Int32.toInt (fp_eq)).trans (rfl), fun e => absurd e (by show rkk 0 ≠ 2; decide), fun e => absurd e (by show rkk 0 ≠ 3; decide), fun e => absurd e (by show rkk 0 ≠ 1; decide)⟩⟩)
      · skip
        replace c7 := mt (i_le (a := n) (b := lim) (by omega) (by omega)).mpr (of_decide_eq_false c7)
        refine Pv.aload rfl rfl ?_
        refine Pv.getI (z := Int32.ofNat q) rfl rfl ((fp_ne (Or.inr (by decide))).trans ((fp_ne (Or.inr (by decide))).trans (fp_eq))) ?_
        refine Pv.aload rfl rfl ?_
        refine Pv.getI (z := Int32.ofNat lim) rfl rfl ((fp_ne (Or.inr (by decide))).trans ((fp_ne (Or.inr (by decide))).trans ((fp_ne (Or.inr (by decide))).trans (h5)))) ?_
        refine Pv.icmp rfl (fun c16 => ?_) (fun c16 => ?_)
        · skip
          replace c16 := (i_lt (a := q) (b := lim) (by omega) (by omega)).mp (of_decide_eq_true c16)
          have hlim : ¬ (lim < n ∧ lim ≤ q) := by omega
          refine Pv.aload rfl rfl ?_
          refine Pv.callVI (as := [.ref 69]) (rest := []) (z := pkw F n q) rfl rfl rfl (g_peek (F0 := F) (p := q) (n := n) (hG.fx (P := fun _ => True) (((((FX.rf (P := fun _ => True))).fp trivial).fp trivial).fp trivial)) ((fp_ne (Or.inr (by decide))).trans ((fp_ne (Or.inr (by decide))).trans (fp_eq))) ((fp_ne (Or.inr (by decide))).trans ((fp_ne (Or.inr (by decide))).trans ((fp_ne (Or.inr (by decide))).trans (h3)))) (by omega) (by omega) (fun q => (fp_ne (Or.inl (by decide))).trans ((fp_ne (Or.inl (by decide))).trans (fp_ne (Or.inl (by decide)))))) ?_
          refine Pv.istore (lo' := [some (.ref 69), some (.int (pkw F n q)), none, none]) rfl rfl ?_
          refine Pv.iload rfl rfl ?_
          refine Pv.if0 rfl (fun c17 => ?_) (fun c17 => ?_)
          · skip
            replace c17 := of_decide_eq_true c17
            refine Pv.iload rfl rfl ?_
            refine Pv.callI (as := [.int (pkw F n q)]) (rest := []) (z := b2i (smL (pkw F n q))) rfl rfl rfl (g_isSmall (pkw F n q)) ?_
            refine Pv.if0 rfl (fun c18 => ?_) (fun c18 => ?_)
            · skip
              replace c18 : decide (b2i (smL (pkw F n q)) = 0) = false := by simpa using c18
              replace c18 := of_decide_eq_false c18
              replace c18 := b2n.mp c18
              refine Pv.iload rfl rfl ?_
              refine Pv.callI (as := [.int (pkw F n q)]) (rest := []) (z := b2i (smL (pkw F n q))) rfl rfl rfl (g_isSmall (pkw F n q)) ?_
              refine Pv.istore (lo' := [some (.ref 69), some (.int (pkw F n q)), some (.int (b2i (smL (pkw F n q)))), none]) rfl rfl ?_
              refine Pv.lit rfl ?_
              refine Pv.istore (lo' := [some (.ref 69), some (.int (pkw F n q)), some (.int (b2i (smL (pkw F n q)))), some (.int 1)]) rfl rfl ?_
              refine Pv.aload rfl rfl ?_
              refine Pv.lit rfl ?_
              refine Pv.putL rfl rfl ?_
              refine Pv.aload rfl rfl ?_
              refine Pv.lit rfl ?_
              refine Pv.putI rfl rfl ?_
              have hq2 := sm_t c18
              have hfr : tk_r ((RBF F n) q) = true := tk_r_l hq2.2
              have hq1 : q < n := hq2.1
              refine (g_nx181 (F0 := F) (q := q) (n := n) (sm := smL (pkw F n q)) (hG.fx (P := fun _ => True) (((((((FX.rf (P := fun _ => True))).fp trivial).fp trivial).fp trivial).fpl trivial).fp trivial)) (RNX.fp (RNX.fl (RNX.fp (RNX.fp (RNX.fp RNX.rf (Or.inl rfl)) (Or.inr (Or.inr (Or.inl rfl)))) (Or.inr (Or.inr (Or.inr (Or.inl rfl)))))) (Or.inr (Or.inr (Or.inr (Or.inr rfl))))) (fun k => (fp_ne (Or.inl (by decide))).trans ((fpl_i).trans ((fp_ne (Or.inl (by decide))).trans ((fp_ne (Or.inl (by decide))).trans (fp_ne (Or.inl (by decide))))))) ((fp_ne (Or.inr (by decide))).trans ((fpl_i).trans ((fp_ne (Or.inr (by decide))).trans ((fp_ne (Or.inr (by decide))).trans ((fp_ne (Or.inr (by decide))).trans (h3)))))) ((fp_ne (Or.inr (by decide))).trans ((fpl_i).trans ((fp_ne (Or.inr (by decide))).trans ((fp_ne (Or.inr (by decide))).trans (fp_eq))))) ((fp_ne (Or.inr (by decide))).trans ((fpl_i).trans ((fp_ne (Or.inr (by decide))).trans (fp_eq)))) ((fp_ne (Or.inr (by decide))).trans ((fpl_i).trans (fp_eq))) (fp_eq) ((fp_l).trans (fpl_eq)) hn hq1 (by rw [cls_eq _ hfr, sm_eq hq1]; exact beq_self_eq_true _) hfr _ _).imp (fun r F' h => ?_)
              rw [hQ, ht, tkq_run hlim hq1 hfr]
              exact h
            · skip
              replace c18 : decide (b2i (smL (pkw F n q)) = 0) = true := by simpa using c18
              replace c18 := of_decide_eq_true c18
              replace c18 := b2z.mp c18
              refine Pv.iload rfl rfl ?_
              refine Pv.callI (as := [.int (pkw F n q)]) (rest := []) (z := b2i (dgL (pkw F n q))) rfl rfl rfl (g_isDigit (pkw F n q)) ?_
              refine Pv.if0 rfl (fun c19 => ?_) (fun c19 => ?_)
              · skip
                replace c19 : decide (b2i (dgL (pkw F n q)) = 0) = false := by simpa using c19
                replace c19 := of_decide_eq_false c19
                replace c19 := b2n.mp c19
                refine Pv.iload rfl rfl ?_
                refine Pv.callI (as := [.int (pkw F n q)]) (rest := []) (z := b2i (smL (pkw F n q))) rfl rfl rfl (g_isSmall (pkw F n q)) ?_
                refine Pv.istore (lo' := [some (.ref 69), some (.int (pkw F n q)), some (.int (b2i (smL (pkw F n q)))), none]) rfl rfl ?_
                refine Pv.lit rfl ?_
                refine Pv.istore (lo' := [some (.ref 69), some (.int (pkw F n q)), some (.int (b2i (smL (pkw F n q)))), some (.int 1)]) rfl rfl ?_
                refine Pv.aload rfl rfl ?_
                refine Pv.lit rfl ?_
                refine Pv.putL rfl rfl ?_
                refine Pv.aload rfl rfl ?_
                refine Pv.lit rfl ?_
                refine Pv.putI rfl rfl ?_
                have hq2 := dg_t c19
                have hfr : tk_r ((RBF F n) q) = true := tk_r_d hq2.2
                have hq1 : q < n := hq2.1
                refine (g_nx181 (F0 := F) (q := q) (n := n) (sm := smL (pkw F n q)) (hG.fx (P := fun _ => True) (((((((FX.rf (P := fun _ => True))).fp trivial).fp trivial).fp trivial).fpl trivial).fp trivial)) (RNX.fp (RNX.fl (RNX.fp (RNX.fp (RNX.fp RNX.rf (Or.inl rfl)) (Or.inr (Or.inr (Or.inl rfl)))) (Or.inr (Or.inr (Or.inr (Or.inl rfl)))))) (Or.inr (Or.inr (Or.inr (Or.inr rfl))))) (fun k => (fp_ne (Or.inl (by decide))).trans ((fpl_i).trans ((fp_ne (Or.inl (by decide))).trans ((fp_ne (Or.inl (by decide))).trans (fp_ne (Or.inl (by decide))))))) ((fp_ne (Or.inr (by decide))).trans ((fpl_i).trans ((fp_ne (Or.inr (by decide))).trans ((fp_ne (Or.inr (by decide))).trans ((fp_ne (Or.inr (by decide))).trans (h3)))))) ((fp_ne (Or.inr (by decide))).trans ((fpl_i).trans ((fp_ne (Or.inr (by decide))).trans ((fp_ne (Or.inr (by decide))).trans (fp_eq))))) ((fp_ne (Or.inr (by decide))).trans ((fpl_i).trans ((fp_ne (Or.inr (by decide))).trans (fp_eq)))) ((fp_ne (Or.inr (by decide))).trans ((fpl_i).trans (fp_eq))) (fp_eq) ((fp_l).trans (fpl_eq)) hn hq1 (by rw [cls_eq _ hfr, sm_eq hq1]; exact beq_self_eq_true _) hfr _ _).imp (fun r F' h => ?_)
                rw [hQ, ht, tkq_run hlim hq1 hfr]
                exact h
              · skip
                replace c19 : decide (b2i (dgL (pkw F n q)) = 0) = true := by simpa using c19
                replace c19 := of_decide_eq_true c19
                replace c19 := b2z.mp c19
                refine Pv.aload rfl rfl ?_
                refine Pv.iload rfl rfl ?_
                refine Pv.lit rfl ?_
                refine Pv.icmp rfl (fun c20 => ?_) (fun c20 => ?_)
                · skip
                  replace c20 := of_decide_eq_true c20
                  refine Pv.lit rfl ?_
                  refine Pv.goto rfl ?_
                  refine Pv.putI rfl rfl ?_
                  refine Pv.aload rfl rfl ?_
                  refine Pv.iload rfl rfl ?_
                  refine Pv.putI rfl rfl ?_
                  refine Pv.aload rfl rfl ?_
                  refine Pv.dup rfl ?_
                  refine Pv.getI (z := Int32.ofNat q) rfl rfl ((fp_ne (Or.inr (by decide))).trans ((fp_ne (Or.inr (by decide))).trans ((fp_ne (Or.inr (by decide))).trans ((fp_ne (Or.inr (by decide))).trans (fp_eq))))) ?_
                  refine Pv.lit rfl ?_
                  refine Pv.bin (z := Int32.ofNat (q + 1)) rfl (i_add q 1) ?_
                  refine Pv.putI rfl rfl ?_
                  have hq1 := pkw_pos c17
                  have hr0 : tk_r ((RBF F n) q) = false := tk_r_f (sm_f hq1 c18) (dg_f hq1 c19)
                  have sg := sg_y hq1 c20 (Or.inl rfl)
                  have TK := ht.trans (tkq_sig hlim hq1 hr0)
                  exact Pv.vret rfl (by rw [hQ]; exact ⟨rfl, (RNX.fp (RNX.fp (RNX.fp (RNX.fp (RNX.fp (RNX.fp RNX.rf (Or.inl rfl)) (Or.inr (Or.inr (Or.inl rfl)))) (Or.inr (Or.inr (Or.inr (Or.inl rfl))))) (Or.inr (Or.inl rfl))) (Or.inr (Or.inr (Or.inr (Or.inr rfl))))) (Or.inl rfl)), by rw [TK]; exact ⟨(congrArg Int32.toInt ((fp_ne (Or.inr (by decide))).trans ((fp_ne (Or.inr (by decide))).trans ((fp_ne (Or.inr (by decide))).trans ((fp_ne (Or.inr (by decide))).trans (fp_eq)))))).trans (i_toInt (by omega)), fp_eq, (congrArg Int32.toInt ((fp_ne (Or.inr (by decide))).trans ((fp_ne (Or.inr (by decide))).trans (fp_eq)))).trans ((show (3 : Int32).toInt = rkk (tsg ((RBF F n) q)) by rw [sg.1, sg.2]; rfl)), fun e => absurd e (by show rkk (tsg ((RBF F n) q)) ≠ 2; rw [sg.1, sg.2]; decide), fun _ => (congrArg Int32.toInt ((fp_ne (Or.inr (by decide))).trans (fp_eq))).trans (show (pkw F n q).toInt = tsg ((RBF F n) q) by rw [sg.1, pkw_to hq1]), fun e => absurd e (by show rkk (tsg ((RBF F n) q)) ≠ 1; rw [sg.1, sg.2]; decide)⟩⟩)
                · skip
                  replace c20 := of_decide_eq_false c20
                  refine Pv.iload rfl rfl ?_
                  refine Pv.lit rfl ?_
                  refine Pv.icmp rfl (fun c21 => ?_) (fun c21 => ?_)
                  · skip
                    replace c21 := of_decide_eq_true c21
                    refine Pv.lit rfl ?_
                    refine Pv.goto rfl ?_
                    refine Pv.putI rfl rfl ?_
                    refine Pv.aload rfl rfl ?_
                    refine Pv.iload rfl rfl ?_
                    refine Pv.putI rfl rfl ?_
                    refine Pv.aload rfl rfl ?_
                    refine Pv.dup rfl ?_
                    refine Pv.getI (z := Int32.ofNat q) rfl rfl ((fp_ne (Or.inr (by decide))).trans ((fp_ne (Or.inr (by decide))).trans ((fp_ne (Or.inr (by decide))).trans ((fp_ne (Or.inr (by decide))).trans (fp_eq))))) ?_
                    refine Pv.lit rfl ?_
                    refine Pv.bin (z := Int32.ofNat (q + 1)) rfl (i_add q 1) ?_
                    refine Pv.putI rfl rfl ?_
                    have hq1 := pkw_pos c17
                    have hr0 : tk_r ((RBF F n) q) = false := tk_r_f (sm_f hq1 c18) (dg_f hq1 c19)
                    have sg := sg_y hq1 c21 (Or.inr (Or.inl rfl))
                    have TK := ht.trans (tkq_sig hlim hq1 hr0)
                    exact Pv.vret rfl (by rw [hQ]; exact ⟨rfl, (RNX.fp (RNX.fp (RNX.fp (RNX.fp (RNX.fp (RNX.fp RNX.rf (Or.inl rfl)) (Or.inr (Or.inr (Or.inl rfl)))) (Or.inr (Or.inr (Or.inr (Or.inl rfl))))) (Or.inr (Or.inl rfl))) (Or.inr (Or.inr (Or.inr (Or.inr rfl))))) (Or.inl rfl)), by rw [TK]; exact ⟨(congrArg Int32.toInt ((fp_ne (Or.inr (by decide))).trans ((fp_ne (Or.inr (by decide))).trans ((fp_ne (Or.inr (by decide))).trans ((fp_ne (Or.inr (by decide))).trans (fp_eq)))))).trans (i_toInt (by omega)), fp_eq, (congrArg Int32.toInt ((fp_ne (Or.inr (by decide))).trans ((fp_ne (Or.inr (by decide))).trans (fp_eq)))).trans ((show (3 : Int32).toInt = rkk (tsg ((RBF F n) q)) by rw [sg.1, sg.2]; rfl)), fun e => absurd e (by show rkk (tsg ((RBF F n) q)) ≠ 2; rw [sg.1, sg.2]; decide), fun _ => (congrArg Int32.toInt ((fp_ne (Or.inr (by decide))).trans (fp_eq))).trans (show (pkw F n q).toInt = tsg ((RBF F n) q) by rw [sg.1, pkw_to hq1]), fun e => absurd e (by show rkk (tsg ((RBF F n) q)) ≠ 1; rw [sg.1, sg.2]; decide)⟩⟩)
                  · skip
                    replace c21 := of_decide_eq_false c21
                    refine Pv.iload rfl rfl ?_
                    refine Pv.lit rfl ?_
                    refine Pv.icmp rfl (fun c22 => ?_) (fun c22 => ?_)
                    · skip
                      replace c22 := of_decide_eq_true c22
                      refine Pv.lit rfl ?_
                      refine Pv.goto rfl ?_
                      refine Pv.putI rfl rfl ?_
                      refine Pv.aload rfl rfl ?_
                      refine Pv.iload rfl rfl ?_
                      refine Pv.putI rfl rfl ?_
                      refine Pv.aload rfl rfl ?_
                      refine Pv.dup rfl ?_
                      refine Pv.getI (z := Int32.ofNat q) rfl rfl ((fp_ne (Or.inr (by decide))).trans ((fp_ne (Or.inr (by decide))).trans ((fp_ne (Or.inr (by decide))).trans ((fp_ne (Or.inr (by decide))).trans (fp_eq))))) ?_
                      refine Pv.lit rfl ?_
                      refine Pv.bin (z := Int32.ofNat (q + 1)) rfl (i_add q 1) ?_
                      refine Pv.putI rfl rfl ?_
                      have hq1 := pkw_pos c17
                      have hr0 : tk_r ((RBF F n) q) = false := tk_r_f (sm_f hq1 c18) (dg_f hq1 c19)
                      have sg := sg_y hq1 c22 (Or.inr (Or.inr (Or.inl rfl)))
                      have TK := ht.trans (tkq_sig hlim hq1 hr0)
                      exact Pv.vret rfl (by rw [hQ]; exact ⟨rfl, (RNX.fp (RNX.fp (RNX.fp (RNX.fp (RNX.fp (RNX.fp RNX.rf (Or.inl rfl)) (Or.inr (Or.inr (Or.inl rfl)))) (Or.inr (Or.inr (Or.inr (Or.inl rfl))))) (Or.inr (Or.inl rfl))) (Or.inr (Or.inr (Or.inr (Or.inr rfl))))) (Or.inl rfl)), by rw [TK]; exact ⟨(congrArg Int32.toInt ((fp_ne (Or.inr (by decide))).trans ((fp_ne (Or.inr (by decide))).trans ((fp_ne (Or.inr (by decide))).trans ((fp_ne (Or.inr (by decide))).trans (fp_eq)))))).trans (i_toInt (by omega)), fp_eq, (congrArg Int32.toInt ((fp_ne (Or.inr (by decide))).trans ((fp_ne (Or.inr (by decide))).trans (fp_eq)))).trans ((show (3 : Int32).toInt = rkk (tsg ((RBF F n) q)) by rw [sg.1, sg.2]; rfl)), fun e => absurd e (by show rkk (tsg ((RBF F n) q)) ≠ 2; rw [sg.1, sg.2]; decide), fun _ => (congrArg Int32.toInt ((fp_ne (Or.inr (by decide))).trans (fp_eq))).trans (show (pkw F n q).toInt = tsg ((RBF F n) q) by rw [sg.1, pkw_to hq1]), fun e => absurd e (by show rkk (tsg ((RBF F n) q)) ≠ 1; rw [sg.1, sg.2]; decide)⟩⟩)
                    · skip
                      replace c22 := of_decide_eq_false c22
                      refine Pv.iload rfl rfl ?_
                      refine Pv.lit rfl ?_
                      refine Pv.icmp rfl (fun c23 => ?_) (fun c23 => ?_)
                      · skip
                        replace c23 := of_decide_eq_true c23
                        refine Pv.lit rfl ?_
                        refine Pv.putI rfl rfl ?_
                        refine Pv.aload rfl rfl ?_
                        refine Pv.iload rfl rfl ?_
                        refine Pv.putI rfl rfl ?_
                        refine Pv.aload rfl rfl ?_
                        refine Pv.dup rfl ?_
                        refine Pv.getI (z := Int32.ofNat q) rfl rfl ((fp_ne (Or.inr (by decide))).trans ((fp_ne (Or.inr (by decide))).trans ((fp_ne (Or.inr (by decide))).trans ((fp_ne (Or.inr (by decide))).trans (fp_eq))))) ?_
                        refine Pv.lit rfl ?_
                        refine Pv.bin (z := Int32.ofNat (q + 1)) rfl (i_add q 1) ?_
                        refine Pv.putI rfl rfl ?_
                        have hq1 := pkw_pos c17
                        have hr0 : tk_r ((RBF F n) q) = false := tk_r_f (sm_f hq1 c18) (dg_f hq1 c19)
                        have sg := sg_n hq1 c20 c21 c22 (Or.inl c23)
                        have TK := ht.trans (tkq_sig hlim hq1 hr0)
                        exact Pv.vret rfl (by rw [hQ]; exact ⟨rfl, (RNX.fp (RNX.fp (RNX.fp (RNX.fp (RNX.fp (RNX.fp RNX.rf (Or.inl rfl)) (Or.inr (Or.inr (Or.inl rfl)))) (Or.inr (Or.inr (Or.inr (Or.inl rfl))))) (Or.inr (Or.inl rfl))) (Or.inr (Or.inr (Or.inr (Or.inr rfl))))) (Or.inl rfl)), by rw [TK]; exact ⟨(congrArg Int32.toInt ((fp_ne (Or.inr (by decide))).trans ((fp_ne (Or.inr (by decide))).trans ((fp_ne (Or.inr (by decide))).trans ((fp_ne (Or.inr (by decide))).trans (fp_eq)))))).trans (i_toInt (by omega)), fp_eq, (congrArg Int32.toInt ((fp_ne (Or.inr (by decide))).trans ((fp_ne (Or.inr (by decide))).trans (fp_eq)))).trans ((show (4 : Int32).toInt = rkk (tsg ((RBF F n) q)) by rw [sg]; rfl)), fun e => absurd e (by show rkk (tsg ((RBF F n) q)) ≠ 2; rw [sg]; decide), fun e => absurd e (by show rkk (tsg ((RBF F n) q)) ≠ 3; rw [sg]; decide), fun e => absurd e (by show rkk (tsg ((RBF F n) q)) ≠ 1; rw [sg]; decide)⟩⟩)
                      · skip
                        replace c23 := of_decide_eq_false c23
                        refine Pv.iload rfl rfl ?_
                        refine Pv.lit rfl ?_
                        refine Pv.icmp rfl (fun c24 => ?_) (fun c24 => ?_)
                        · skip
                          replace c24 := of_decide_eq_true c24
                          refine Pv.lit rfl ?_
                          refine Pv.putI rfl rfl ?_
                          refine Pv.aload rfl rfl ?_
                          refine Pv.iload rfl rfl ?_
                          refine Pv.putI rfl rfl ?_
                          refine Pv.aload rfl rfl ?_
                          refine Pv.dup rfl ?_
                          refine Pv.getI (z := Int32.ofNat q) rfl rfl ((fp_ne (Or.inr (by decide))).trans ((fp_ne (Or.inr (by decide))).trans ((fp_ne (Or.inr (by decide))).trans ((fp_ne (Or.inr (by decide))).trans (fp_eq))))) ?_
                          refine Pv.lit rfl ?_
                          refine Pv.bin (z := Int32.ofNat (q + 1)) rfl (i_add q 1) ?_
                          refine Pv.putI rfl rfl ?_
                          have hq1 := pkw_pos c17
                          have hr0 : tk_r ((RBF F n) q) = false := tk_r_f (sm_f hq1 c18) (dg_f hq1 c19)
                          have sg := sg_n hq1 c20 c21 c22 (Or.inr c24)
                          have TK := ht.trans (tkq_sig hlim hq1 hr0)
                          exact Pv.vret rfl (by rw [hQ]; exact ⟨rfl, (RNX.fp (RNX.fp (RNX.fp (RNX.fp (RNX.fp (RNX.fp RNX.rf (Or.inl rfl)) (Or.inr (Or.inr (Or.inl rfl)))) (Or.inr (Or.inr (Or.inr (Or.inl rfl))))) (Or.inr (Or.inl rfl))) (Or.inr (Or.inr (Or.inr (Or.inr rfl))))) (Or.inl rfl)), by rw [TK]; exact ⟨(congrArg Int32.toInt ((fp_ne (Or.inr (by decide))).trans ((fp_ne (Or.inr (by decide))).trans ((fp_ne (Or.inr (by decide))).trans ((fp_ne (Or.inr (by decide))).trans (fp_eq)))))).trans (i_toInt (by omega)), fp_eq, (congrArg Int32.toInt ((fp_ne (Or.inr (by decide))).trans ((fp_ne (Or.inr (by decide))).trans (fp_eq)))).trans ((show (4 : Int32).toInt = rkk (tsg ((RBF F n) q)) by rw [sg]; rfl)), fun e => absurd e (by show rkk (tsg ((RBF F n) q)) ≠ 2; rw [sg]; decide), fun e => absurd e (by show rkk (tsg ((RBF F n) q)) ≠ 3; rw [sg]; decide), fun e => absurd e (by show rkk (tsg ((RBF F n) q)) ≠ 1; rw [sg]; decide)⟩⟩)
                        · skip
                          replace c24 := of_decide_eq_false c24
                          refine Pv.lit rfl ?_
                          refine Pv.goto rfl ?_
                          refine Pv.putI rfl rfl ?_
                          refine Pv.aload rfl rfl ?_
                          refine Pv.iload rfl rfl ?_
                          refine Pv.putI rfl rfl ?_
                          refine Pv.aload rfl rfl ?_
                          refine Pv.dup rfl ?_
                          refine Pv.getI (z := Int32.ofNat q) rfl rfl ((fp_ne (Or.inr (by decide))).trans ((fp_ne (Or.inr (by decide))).trans ((fp_ne (Or.inr (by decide))).trans ((fp_ne (Or.inr (by decide))).trans (fp_eq))))) ?_
                          refine Pv.lit rfl ?_
                          refine Pv.bin (z := Int32.ofNat (q + 1)) rfl (i_add q 1) ?_
                          refine Pv.putI rfl rfl ?_
                          have hq1 := pkw_pos c17
                          have hr0 : tk_r ((RBF F n) q) = false := tk_r_f (sm_f hq1 c18) (dg_f hq1 c19)
                          have sg := sg_3 hq1 c23 c24
                          have TK := ht.trans (tkq_sig hlim hq1 hr0)
                          exact Pv.vret rfl (by rw [hQ]; exact ⟨rfl, (RNX.fp (RNX.fp (RNX.fp (RNX.fp (RNX.fp (RNX.fp RNX.rf (Or.inl rfl)) (Or.inr (Or.inr (Or.inl rfl)))) (Or.inr (Or.inr (Or.inr (Or.inl rfl))))) (Or.inr (Or.inl rfl))) (Or.inr (Or.inr (Or.inr (Or.inr rfl))))) (Or.inl rfl)), by rw [TK]; exact ⟨(congrArg Int32.toInt ((fp_ne (Or.inr (by decide))).trans ((fp_ne (Or.inr (by decide))).trans ((fp_ne (Or.inr (by decide))).trans ((fp_ne (Or.inr (by decide))).trans (fp_eq)))))).trans (i_toInt (by omega)), fp_eq, (congrArg Int32.toInt ((fp_ne (Or.inr (by decide))).trans ((fp_ne (Or.inr (by decide))).trans (fp_eq)))).trans ((show (3 : Int32).toInt = rkk (tsg ((RBF F n) q)) by rw [sg.1, sg.2]; rfl)), fun e => absurd e (by show rkk (tsg ((RBF F n) q)) ≠ 2; rw [sg.1, sg.2]; decide), fun _ => (congrArg Int32.toInt ((fp_ne (Or.inr (by decide))).trans (fp_eq))).trans (show (pkw F n q).toInt = tsg ((RBF F n) q) by rw [sg.1, pkw_to hq1]), fun e => absurd e (by show rkk (tsg ((RBF F n) q)) ≠ 1; rw [sg.1, sg.2]; decide)⟩⟩)
          · skip
            replace c17 := of_decide_eq_false c17
            refine Pv.aload rfl rfl ?_
            refine Pv.lit rfl ?_
            refine Pv.putI rfl rfl ?_
            have hnq : q = n := by have := pkw_neg c17; omega
            have TK := ht.trans (tkq_end hlim (by omega))
            exact Pv.vret rfl (by rw [hQ]; exact ⟨rfl, (RNX.fp (RNX.fp (RNX.fp (RNX.fp RNX.rf (Or.inl rfl)) (Or.inr (Or.inr (Or.inl rfl)))) (Or.inr (Or.inr (Or.inr (Or.inl rfl))))) (Or.inr (Or.inl rfl))), by rw [TK]; exact ⟨(congrArg Int32.toInt ((fp_ne (Or.inr (by decide))).trans ((fp_ne (Or.inr (by decide))).trans (fp_eq)))).trans ((i_toInt (by omega)).trans (congrArg Int.ofNat hnq)), (fp_ne (Or.inr (by decide))).trans ((fp_ne (Or.inr (by decide))).trans ((fp_ne (Or.inr (by decide))).trans (fp_eq))), (congrArg Int32.toInt (fp_eq)).trans (rfl), fun e => absurd e (by show rkk 0 ≠ 2; decide), fun e => absurd e (by show rkk 0 ≠ 3; decide), fun e => absurd e (by show rkk 0 ≠ 1; decide)⟩⟩)
        · skip
          replace c16 := mt (i_lt (a := q) (b := lim) (by omega) (by omega)).mpr (of_decide_eq_false c16)
          refine Pv.aload rfl rfl ?_
          refine Pv.aload rfl rfl ?_
          refine Pv.getI (z := Int32.ofNat lim) rfl rfl ((fp_ne (Or.inr (by decide))).trans ((fp_ne (Or.inr (by decide))).trans ((fp_ne (Or.inr (by decide))).trans (h5)))) ?_
          refine Pv.putI rfl rfl ?_
          refine Pv.aload rfl rfl ?_
          refine Pv.lit rfl ?_
          refine Pv.putI rfl rfl ?_
          have TK := ht.trans (tkq_none (by omega) (by omega))
          exact Pv.vret rfl (by rw [hQ]; exact ⟨rfl, (RNX.fp (RNX.fp (RNX.fp (RNX.fp (RNX.fp RNX.rf (Or.inl rfl)) (Or.inr (Or.inr (Or.inl rfl)))) (Or.inr (Or.inr (Or.inr (Or.inl rfl))))) (Or.inr (Or.inr (Or.inl rfl)))) (Or.inr (Or.inl rfl))), by rw [TK]; exact ⟨(congrArg Int32.toInt ((fp_ne (Or.inr (by decide))).trans (fp_eq))).trans (i_toInt (by omega)), (fp_ne (Or.inr (by decide))).trans ((fp_ne (Or.inr (by decide))).trans ((fp_ne (Or.inr (by decide))).trans ((fp_ne (Or.inr (by decide))).trans (fp_eq)))), (congrArg Int32.toInt (fp_eq)).trans (rfl), fun e => absurd e (by show rkk 1 ≠ 2; decide), fun e => absurd e (by show rkk 1 ≠ 3; decide), fun e => absurd e (by show rkk 1 ≠ 1; decide)⟩⟩)
    · skip
      replace c6 : decide (pkw F n q = 10) = true := by simpa using c6
      replace c6 := of_decide_eq_true c6
      have hqy := pkw_in c6 (by decide)
      have hby : tk_b ((RBF F n) q) = true := by rw [hqy.2]; decide
      refine Pv.aload rfl rfl ?_
      refine Pv.dup rfl ?_
      refine Pv.getI (z := Int32.ofNat q) rfl rfl (fp_eq) ?_
      refine Pv.lit rfl ?_
      refine Pv.bin (z := Int32.ofNat (q + 1)) rfl (i_add q 1) ?_
      refine Pv.putI rfl rfl ?_
      refine Pv.goto rfl ?_
      refine Pv.fE (G := fp F 69 4 (Int32.ofNat (q + 1))) (fp_fp) ?_
      exact ih4 (q + 1) (⟨by omega, by omega, (tk_go hqy.1 hby).symm.trans hrun⟩)
end
-- 63.b76.lrd.lean.txt
section
/-! ===== the class reads on: tokens that are laid, the one that is read ===== -/
def TKV (X : TT) : Prop := (X.k = 3 → 0 ≤ X.v ∧ X.v ≤ 999) ∧ (X.k = 2 → LW 7 X.v)
def TKF (F : FW) (T : Nat → TT) (m : Nat) : Prop := 1 ≤ m ∧ m ≤ 901 ∧ F.1 3 3 = Int32.ofNat m ∧ (∀ j, j < m → (F.1 4 j).toInt = (T j).k ∧ (F.1 5 j).toInt = (T j).pl ∧ ((T j).k = 3 → (F.2.2.1 6 j).toInt = (T j).v) ∧ ((T j).k = 2 → (F.2.2.1 6 j).toInt = c32 7 (T j).v) ∧ TKV (T j)) ∧ ∀ j, j < m → (T j).k ≠ 0 → (T j).k ≠ 1 → j + 1 < m
theorem TKF.n {F : FW} {T : Nat → TT} {m : Nat} (h : TKF F T m) : F.1 3 3 = Int32.ofNat m := h.2.2.1
theorem TKF.b {F : FW} {T : Nat → TT} {m : Nat} (h : TKF F T m) : m ≤ 901 := h.2.1
theorem TKF.v {F : FW} {T : Nat → TT} {m j : Nat} (h : TKF F T m) (hj : j < m) : TKV (T j) := (h.2.2.2.1 j hj).2.2.2.2
theorem TKF.up {F : FW} {T : Nat → TT} {m j : Nat} (h : TKF F T m) (hj : j < m) (h0 : (T j).k ≠ 0) (h1 : (T j).k ≠ 1) : j + 1 < m := h.2.2.2.2 j hj h0 h1
def CURF (F : FW) (X : TT) : Prop := (F.1 3 5).toInt = X.k ∧ (F.1 3 6).toInt = X.pl ∧ (X.k = 3 → (F.1 3 7).toInt = X.v) ∧ (X.k = 2 → (F.2.2.1 3 8).toInt = c32 7 X.v)
/-- what reading changes: the cells of the one that reads -/
def RCX (F G : FW) : Prop := FX (fun q => q = 3) F G ∧ (∀ k, k ≠ 4 → k ≠ 5 → k ≠ 6 → k ≠ 7 → k ≠ 9 → G.1 3 k = F.1 3 k) ∧ ∀ k, k ≠ 8 → G.2.2.1 3 k = F.2.2.1 3 k
theorem RCX.rf {F : FW} : RCX F F := ⟨FX.rf, fun _ _ _ _ _ _ => rfl, fun _ _ => rfl⟩
theorem RCX.tr {F G K : FW} (a : RCX F G) (b : RCX G K) : RCX F K := ⟨a.1.tr b.1, fun k h1 h2 h3 h4 h5 => (b.2.1 k h1 h2 h3 h4 h5).trans (a.2.1 k h1 h2 h3 h4 h5), fun k h => (b.2.2 k h).trans (a.2.2 k h)⟩
theorem RCX.fl {F G : FW} {v : Int64} (h : RCX F G) : RCX F (fpl G 3 8 v) := ⟨h.1.fpl rfl, h.2.1, fun j c => (fpl_ne (Or.inr c)).trans (h.2.2 j c)⟩
theorem RCX.fp {F G : FW} {k : Nat} {v : Int32} (h : RCX F G) (c : k = 4 ∨ k = 5 ∨ k = 6 ∨ k = 7 ∨ k = 9) : RCX F (fp G 3 k v) := ⟨h.1.fp rfl, fun j h1 h2 h3 h4 h5 => (fp_ne (Or.inr (by omega))).trans (h.2.1 j h1 h2 h3 h4 h5), h.2.2⟩
theorem RCX.G {F G : FW} (h : RCX F G) (g : GW F) : GW G := g.fx h.1
theorem RCX.TK {F G : FW} {T : Nat → TT} {m : Nat} (h : RCX F G) (t : TKF F T m) : TKF G T m := by
  have e4 : ∀ j, G.1 4 j = F.1 4 j := fun j => h.1.1 4 j (by decide)
  have e5 : ∀ j, G.1 5 j = F.1 5 j := fun j => h.1.1 5 j (by decide)
  have e6 : ∀ j, G.2.2.1 6 j = F.2.2.1 6 j := fun j => h.1.2.1 6 j (by decide)
  refine ⟨t.1, t.2.1, (h.2.1 3 (by decide) (by decide) (by decide) (by decide) (by decide)).trans t.2.2.1, fun j hj => ?_, t.2.2.2.2⟩
  rw [e4, e5, e6]
  exact t.2.2.2.1 j hj
def RDC (F G : FW) (X : TT) (i : Nat) (c : Int32) : Prop := RCX F G ∧ G.1 3 4 = Int32.ofNat (i + 1) ∧ CURF G X ∧ G.1 3 9 = (if c = 0 then F.1 3 9 else c)
def tnN (X : TT) (lo hi : Int) : Int32 := if X.k = 3 then (if X.v < lo ∨ hi < X.v then 2 else 0) else 1
def tnW (X : TT) : Int32 := if X.k = 2 then 0 else 1
def tnS (X : TT) (x : Int) : Int32 := if X.k = x then 0 else 1
theorem CURF.p9 {F : FW} {X : TT} {v : Int32} (h : CURF F X) : CURF (fp F 3 9 v) X := ⟨(congrArg Int32.toInt (fp_ne (Or.inr (by decide)))).trans h.1, (congrArg Int32.toInt (fp_ne (Or.inr (by decide)))).trans h.2.1, fun e => (congrArg Int32.toInt (fp_ne (Or.inr (by decide)))).trans (h.2.2.1 e), h.2.2.2⟩
theorem RDC.bad {F G : FW} {X : TT} {i : Nat} {c : Int32} (h : RDC F G X i 0) (hc : c ≠ 0) : RDC F (fp G 3 9 c) X i c := ⟨h.1.fp (Or.inr (Or.inr (Or.inr (Or.inr rfl)))), (fp_ne (Or.inr (by decide))).trans h.2.1, h.2.2.1.p9, fp_eq.trans (if_neg hc).symm⟩
theorem l2i_v {w : Int64} {v : Int} (h : w.toInt = v) (h1 : 0 ≤ v ∧ v ≤ 999) : w.toInt32.toInt = v := (l_l2i (by omega) (by omega)).trans h
theorem nm_eq {x w : Int64} {a v : Int} (h1 : x.toInt = c32 7 a ∧ LW 7 a) (hw : w.toInt = c32 7 v) (hv : LW 7 v) : x = w ↔ a = v := by
  constructor
  · intro e
    rw [e, hw] at h1
    exact (c32_inj hv h1.2 h1.1).symm
  · intro e
    rw [← e] at hw
    exact Int64.toInt_inj.mp (h1.1.trans hw.symm)
/-- is X's kind this number -/
theorem k_eq {a x : Int32} {k : Int} (h : a.toInt = k) : a = x ↔ k = x.toInt := by
  rw [← h]
  exact Int32.toInt_inj.symm
end
-- 63.b76a.lean.txt
section
set_option maxRecDepth 100000 in
set_option maxHeartbeats 4000000 in
theorem c_step {F : FW} {T : Nat → TT} {m i : Nat} (hG : GW F) (hT : TKF F T m) (h4 : F.1 3 4 = Int32.ofNat i) (hi : i < m) : Pm Z_X9_step [.ref 3] F (fun r F' => r = none ∧ RDC F F' (T i) i 0) := by
  refine Pm.of fun N => ?_
  obtain ⟨Q, hQ⟩ : ∃ Q : Option Value → FW → Prop, Q = (fun r F' => r = none ∧ RDC F F' (T i) i 0) := ⟨_, rfl⟩
  rw [← hQ]
  have hmb := hT.b
  refine (show Pv (ab_T L_X9_step) N 0 [some (.ref 3)] [] F Q from ?_)
  refine Pv.aload rfl rfl ?_
  refine Pv.getI (z := Int32.ofNat i) rfl rfl (h4) ?_
  refine Pv.aload rfl rfl ?_
  refine Pv.getI (z := Int32.ofNat m) rfl rfl (hT.n) ?_
  refine Pv.icmp rfl (fun c1 => ?_) (fun c1 => ?_)
  · skip
    replace c1 := (i_le (a := m) (b := i) (by omega) (by omega)).mp (of_decide_eq_true c1)
    omega
  · skip
    replace c1 := mt (i_le (a := m) (b := i) (by omega) (by omega)).mpr (of_decide_eq_false c1)
    refine Pv.aload rfl rfl ?_
    refine Pv.getI (z := Int32.ofNat i) rfl rfl (h4) ?_
    refine Pv.lit rfl ?_
    refine Pv.icmp rfl (fun c2 => ?_) (fun c2 => ?_)
    · skip
      replace c2 := (i_le (a := 901) (b := i) (by omega) (by omega)).mp (of_decide_eq_true c2)
      omega
    · skip
      replace c2 := mt (i_le (a := 901) (b := i) (by omega) (by omega)).mpr (of_decide_eq_false c2)
      refine Pv.aload rfl rfl ?_
      refine Pv.aload rfl rfl ?_
      refine Pv.getR (v := .ref 4) rfl rfl (GW.at (a := 3) (k := 0) (b := 4) hG (by decide)) ?_
      refine Pv.aload rfl rfl ?_
      refine Pv.getI (z := Int32.ofNat i) rfl rfl (h4) ?_
      refine Pv.ald (z := F.1 4 i) rfl (by rw [i_toNat (by omega)]) ?_
      refine Pv.putI rfl rfl ?_
      refine Pv.aload rfl rfl ?_
      refine Pv.aload rfl rfl ?_
      refine Pv.getR (v := .ref 5) rfl rfl (GW.at (a := 3) (k := 1) (b := 5) hG (by decide)) ?_
      refine Pv.aload rfl rfl ?_
      refine Pv.getI (z := Int32.ofNat i) rfl rfl ((fp_ne (Or.inr (by decide))).trans (h4)) ?_
      refine Pv.ald (z := F.1 5 i) rfl (by rw [i_toNat (by omega)]; exact fp_ne (Or.inl (by decide))) ?_
      refine Pv.putI rfl rfl ?_
      refine Pv.aload rfl rfl ?_
      refine Pv.aload rfl rfl ?_
      refine Pv.getR (v := .ref 6) rfl rfl (GW.at (a := 3) (k := 2) (b := 6) hG (by decide)) ?_
      refine Pv.aload rfl rfl ?_
      refine Pv.getI (z := Int32.ofNat i) rfl rfl ((fp_ne (Or.inr (by decide))).trans ((fp_ne (Or.inr (by decide))).trans (h4))) ?_
      refine Pv.lald (z := F.2.2.1 6 i) rfl (by rw [i_toNat (by omega)]; exact (fp_l).trans (fp_l)) ?_
      refine Pv.putL rfl rfl ?_
      refine Pv.aload rfl rfl ?_
      refine Pv.aload rfl rfl ?_
      refine Pv.getR (v := .ref 6) rfl rfl (GW.at (a := 3) (k := 2) (b := 6) hG (by decide)) ?_
      refine Pv.aload rfl rfl ?_
      refine Pv.getI (z := Int32.ofNat i) rfl rfl ((fpl_i).trans ((fp_ne (Or.inr (by decide))).trans ((fp_ne (Or.inr (by decide))).trans (h4)))) ?_
      refine Pv.lald (z := F.2.2.1 6 i) rfl (by rw [i_toNat (by omega)]; exact (fpl_ne (Or.inl (by decide))).trans ((fp_l).trans (fp_l))) ?_
      refine Pv.l2i (z := Int64.toInt32 (F.2.2.1 6 i)) rfl (rfl) ?_
      refine Pv.putI rfl rfl ?_
      refine Pv.aload rfl rfl ?_
      refine Pv.dup rfl ?_
      refine Pv.getI (z := Int32.ofNat i) rfl rfl ((fp_ne (Or.inr (by decide))).trans ((fpl_i).trans ((fp_ne (Or.inr (by decide))).trans ((fp_ne (Or.inr (by decide))).trans (h4))))) ?_
      refine Pv.lit rfl ?_
      refine Pv.bin (z := Int32.ofNat (i + 1)) rfl (i_add i 1) ?_
      refine Pv.putI rfl rfl ?_
      obtain ⟨q1, q2, q3, q4, q5⟩ := hT.2.2.2.1 i hi
      exact Pv.vret rfl (by rw [hQ]; exact ⟨rfl, (RCX.fp (RCX.fp (RCX.fl (RCX.fp (RCX.fp RCX.rf (Or.inr (Or.inl rfl))) (Or.inr (Or.inr (Or.inl rfl))))) (Or.inr (Or.inr (Or.inr (Or.inl rfl))))) (Or.inl rfl)), fp_eq, ⟨(congrArg Int32.toInt ((fp_ne (Or.inr (by decide))).trans ((fp_ne (Or.inr (by decide))).trans ((fpl_i).trans ((fp_ne (Or.inr (by decide))).trans (fp_eq)))))).trans q1, (congrArg Int32.toInt ((fp_ne (Or.inr (by decide))).trans ((fp_ne (Or.inr (by decide))).trans ((fpl_i).trans (fp_eq))))).trans q2, fun e => (congrArg Int32.toInt ((fp_ne (Or.inr (by decide))).trans (fp_eq))).trans (l2i_v (q3 e) (q5.1 e)), fun e => (congrArg Int64.toInt ((fp_l).trans ((fp_l).trans (fpl_eq)))).trans (q4 e)⟩, ((fp_ne (Or.inr (by decide))).trans ((fp_ne (Or.inr (by decide))).trans ((fpl_i).trans ((fp_ne (Or.inr (by decide))).trans (fp_ne (Or.inr (by decide))))))).trans (if_pos rfl).symm⟩)
set_option maxRecDepth 100000 in
set_option maxHeartbeats 4000000 in
theorem c_fail {F : FW} {c : Int32} : Pm Z_X9_fail [.ref 3, .int c] F (fun r F' => r = some (.int 0) ∧ F' = fp F 3 9 c) := by
  refine Pm.of fun N => ?_
  obtain ⟨Q, hQ⟩ : ∃ Q : Option Value → FW → Prop, Q = (fun r F' => r = some (.int 0) ∧ F' = fp F 3 9 c) := ⟨_, rfl⟩
  rw [← hQ]
  refine (show Pv (ab_T L_X9_fail) N 0 [some (.ref 3), some (.int c)] [] F Q from ?_)
  refine Pv.aload rfl rfl ?_
  refine Pv.iload rfl rfl ?_
  refine Pv.putI rfl rfl ?_
  refine Pv.lit rfl ?_
  exact Pv.zret rfl (by rw [hQ]; exact ⟨rfl, rfl⟩)
set_option maxRecDepth 100000 in
set_option maxHeartbeats 4000000 in
theorem c_takeSign {F : FW} {T : Nat → TT} {m i : Nat} (hG : GW F) (hT : TKF F T m) (h4 : F.1 3 4 = Int32.ofNat i) (hi : i < m) (x : Int32) : Pm Z_X9_takeSign [.ref 3, .int x] F (fun r F' => r = some (.int (b2i (decide (tnS (T i) x.toInt = 0)))) ∧ RDC F F' (T i) i (tnS (T i) x.toInt)) := by
  refine Pm.of fun N => ?_
  obtain ⟨Q, hQ⟩ : ∃ Q : Option Value → FW → Prop, Q = (fun r F' => r = some (.int (b2i (decide (tnS (T i) x.toInt = 0)))) ∧ RDC F F' (T i) i (tnS (T i) x.toInt)) := ⟨_, rfl⟩
  rw [← hQ]
  refine (show Pv (ab_T (L_X9_takeSign Z_X9_step Z_X9_fail)) N 0 [some (.ref 3), some (.int x)] [] F Q from ?_)
  refine Pv.aload rfl rfl ?_
  refine Pv.callV (as := [.ref 3]) (rest := []) rfl rfl rfl (c_step hG hT h4 hi) ?_
  rintro _ G1 ⟨rfl, hd2⟩
  refine (show Pv _ _ 4 [some (.ref 3), some (.int x)] [] G1 Q from ?_)
  refine Pv.aload rfl rfl ?_
  refine Pv.getI (z := G1.1 3 5) rfl rfl (rfl) ?_
  refine Pv.iload rfl rfl ?_
  refine Pv.icmp rfl (fun c3 => ?_) (fun c3 => ?_)
  · skip
    replace c3 := of_decide_eq_true c3
    refine Pv.lit rfl ?_
    refine Pv.goto rfl ?_
    have ec : tnS (T i) x.toInt = 0 := if_pos ((k_eq hd2.2.2.1.1).mp c3)
    exact Pv.zret rfl (by rw [hQ]; exact ⟨by rw [ec]; rfl, by rw [ec]; exact hd2⟩)
  · skip
    replace c3 := of_decide_eq_false c3
    refine Pv.aload rfl rfl ?_
    refine Pv.lit rfl ?_
    refine Pv.callVI (as := [.ref 3, .int 1]) (rest := []) (z := 0) rfl rfl rfl (c_fail (c := 1)) ?_
    refine Pv.if0 rfl (fun c4 => ?_) (fun c4 => ?_)
    · skip
      replace c4 := (i_eq (a := 0) (b := 0) (by omega) (by omega)).mp (of_decide_eq_true c4)
      refine Pv.lit rfl ?_
      have ec : tnS (T i) x.toInt = 1 := if_neg (fun e => c3 ((k_eq hd2.2.2.1.1).mpr e))
      exact Pv.zret rfl (by rw [hQ]; exact ⟨by rw [ec]; rfl, by rw [ec]; exact RDC.bad hd2 (by decide)⟩)
    · skip
      replace c4 := mt (i_eq (a := 0) (b := 0) (by omega) (by omega)).mpr (of_decide_eq_false c4)
      omega
set_option maxRecDepth 100000 in
set_option maxHeartbeats 4000000 in
theorem c_takeName {F : FW} {T : Nat → TT} {m i : Nat} (hG : GW F) (hT : TKF F T m) (h4 : F.1 3 4 = Int32.ofNat i) (hi : i < m) : Pm Z_X9_takeName [.ref 3] F (fun r F' => r = some (.int (b2i (decide (tnW (T i) = 0)))) ∧ RDC F F' (T i) i (tnW (T i))) := by
  refine Pm.of fun N => ?_
  obtain ⟨Q, hQ⟩ : ∃ Q : Option Value → FW → Prop, Q = (fun r F' => r = some (.int (b2i (decide (tnW (T i) = 0)))) ∧ RDC F F' (T i) i (tnW (T i))) := ⟨_, rfl⟩
  rw [← hQ]
  refine (show Pv (ab_T (L_X9_takeName Z_X9_step Z_X9_fail)) N 0 [some (.ref 3)] [] F Q from ?_)
  refine Pv.aload rfl rfl ?_
  refine Pv.callV (as := [.ref 3]) (rest := []) rfl rfl rfl (c_step hG hT h4 hi) ?_
  rintro _ G1 ⟨rfl, hd2⟩
  refine (show Pv _ _ 4 [some (.ref 3)] [] G1 Q from ?_)
  refine Pv.aload rfl rfl ?_
  refine Pv.getI (z := G1.1 3 5) rfl rfl (rfl) ?_
  refine Pv.lit rfl ?_
  refine Pv.icmp rfl (fun c3 => ?_) (fun c3 => ?_)
  · skip
    replace c3 := of_decide_eq_true c3
    refine Pv.lit rfl ?_
    refine Pv.goto rfl ?_
    have ec : tnW (T i) = 0 := if_pos ((k_eq (x := 2) hd2.2.2.1.1).mp c3)
    exact Pv.zret rfl (by rw [hQ]; exact ⟨by rw [ec]; rfl, by rw [ec]; exact hd2⟩)
  · skip
    replace c3 := of_decide_eq_false c3
    refine Pv.aload rfl rfl ?_
    refine Pv.lit rfl ?_
    refine Pv.callVI (as := [.ref 3, .int 1]) (rest := []) (z := 0) rfl rfl rfl (c_fail (c := 1)) ?_
    refine Pv.if0 rfl (fun c4 => ?_) (fun c4 => ?_)
    · skip
      replace c4 := (i_eq (a := 0) (b := 0) (by omega) (by omega)).mp (of_decide_eq_true c4)
      refine Pv.lit rfl ?_
      have ec : tnW (T i) = 1 := if_neg (fun e => c3 ((k_eq (x := 2) hd2.2.2.1.1).mpr e))
      exact Pv.zret rfl (by rw [hQ]; exact ⟨by rw [ec]; rfl, by rw [ec]; exact RDC.bad hd2 (by decide)⟩)
    · skip
      replace c4 := mt (i_eq (a := 0) (b := 0) (by omega) (by omega)).mpr (of_decide_eq_false c4)
      omega
set_option maxRecDepth 100000 in
set_option maxHeartbeats 4000000 in
theorem c_takeNumber {F : FW} {T : Nat → TT} {m i : Nat} (hG : GW F) (hT : TKF F T m) (h4 : F.1 3 4 = Int32.ofNat i) (hi : i < m) (lo hi2 : Int32) : Pm Z_X9_takeNumber [.ref 3, .int lo, .int hi2] F (fun r F' => r = some (.int (b2i (decide (tnN (T i) lo.toInt hi2.toInt = 0)))) ∧ RDC F F' (T i) i (tnN (T i) lo.toInt hi2.toInt)) := by
  refine Pm.of fun N => ?_
  obtain ⟨Q, hQ⟩ : ∃ Q : Option Value → FW → Prop, Q = (fun r F' => r = some (.int (b2i (decide (tnN (T i) lo.toInt hi2.toInt = 0)))) ∧ RDC F F' (T i) i (tnN (T i) lo.toInt hi2.toInt)) := ⟨_, rfl⟩
  rw [← hQ]
  refine (show Pv (ab_T (L_X9_takeNumber Z_X9_step Z_X9_fail)) N 0 [some (.ref 3), some (.int lo), some (.int hi2)] [] F Q from ?_)
  refine Pv.aload rfl rfl ?_
  refine Pv.callV (as := [.ref 3]) (rest := []) rfl rfl rfl (c_step hG hT h4 hi) ?_
  rintro _ G1 ⟨rfl, hd2⟩
  refine (show Pv _ _ 4 [some (.ref 3), some (.int lo), some (.int hi2)] [] G1 Q from ?_)
  refine Pv.aload rfl rfl ?_
  refine Pv.getI (z := G1.1 3 5) rfl rfl (rfl) ?_
  refine Pv.lit rfl ?_
  refine Pv.icmp rfl (fun c3 => ?_) (fun c3 => ?_)
  · skip
    replace c3 := of_decide_eq_true c3
    refine Pv.aload rfl rfl ?_
    refine Pv.getI (z := G1.1 3 7) rfl rfl (rfl) ?_
    refine Pv.iload rfl rfl ?_
    refine Pv.icmp rfl (fun c4 => ?_) (fun c4 => ?_)
    · skip
      replace c4 := of_decide_eq_true c4
      refine Pv.aload rfl rfl ?_
      refine Pv.lit rfl ?_
      refine Pv.callVI (as := [.ref 3, .int 2]) (rest := []) (z := 0) rfl rfl rfl (c_fail (c := 2)) ?_
      refine Pv.if0 rfl (fun c5 => ?_) (fun c5 => ?_)
      · skip
        replace c5 := (i_eq (a := 0) (b := 0) (by omega) (by omega)).mp (of_decide_eq_true c5)
        refine Pv.lit rfl ?_
        have ec : tnN (T i) lo.toInt hi2.toInt = 2 := by have k3 : (T i).k = 3 := (k_eq (x := 3) hd2.2.2.1.1).mp c3; have q3 := hd2.2.2.1.2.2.1 k3; unfold tnN; rw [if_pos k3]; exact if_pos (by rw [← q3]; exact Or.inl (Int32.lt_iff_toInt_lt.mp c4))
        exact Pv.zret rfl (by rw [hQ]; exact ⟨by rw [ec]; rfl, by rw [ec]; exact RDC.bad hd2 (by decide)⟩)
      · skip
        replace c5 := mt (i_eq (a := 0) (b := 0) (by omega) (by omega)).mpr (of_decide_eq_false c5)
        omega
    · skip
      replace c4 := of_decide_eq_false c4
      refine Pv.aload rfl rfl ?_
      refine Pv.getI (z := G1.1 3 7) rfl rfl (rfl) ?_
      refine Pv.iload rfl rfl ?_
      refine Pv.icmp rfl (fun c6 => ?_) (fun c6 => ?_)
      · skip
        replace c6 := of_decide_eq_true c6
        refine Pv.lit rfl ?_
        refine Pv.goto rfl ?_
        have ec : tnN (T i) lo.toInt hi2.toInt = 0 := by have k3 : (T i).k = 3 := (k_eq (x := 3) hd2.2.2.1.1).mp c3; have q3 := hd2.2.2.1.2.2.1 k3; unfold tnN; rw [if_pos k3, if_neg (fun c => ?_)]; rw [← q3] at c; exact c.elim (fun c => c4 (Int32.lt_iff_toInt_lt.mpr c)) (fun c => absurd (Int32.le_iff_toInt_le.mp c6) (by omega))
        exact Pv.zret rfl (by rw [hQ]; exact ⟨by rw [ec]; rfl, by rw [ec]; exact hd2⟩)
      · skip
        replace c6 := of_decide_eq_false c6
        refine Pv.aload rfl rfl ?_
        refine Pv.lit rfl ?_
        refine Pv.callVI (as := [.ref 3, .int 2]) (rest := []) (z := 0) rfl rfl rfl (c_fail (c := 2)) ?_
        refine Pv.if0 rfl (fun c7 => ?_) (fun c7 => ?_)
        · skip
          replace c7 := (i_eq (a := 0) (b := 0) (by omega) (by omega)).mp (of_decide_eq_true c7)
          refine Pv.lit rfl ?_
          have ec : tnN (T i) lo.toInt hi2.toInt = 2 := by have k3 : (T i).k = 3 := (k_eq (x := 3) hd2.2.2.1.1).mp c3; have q3 := hd2.2.2.1.2.2.1 k3; unfold tnN; rw [if_pos k3]; exact if_pos (by rw [← q3]; exact Or.inr (by have := mt Int32.le_iff_toInt_le.mpr c6; omega))
          exact Pv.zret rfl (by rw [hQ]; exact ⟨by rw [ec]; rfl, by rw [ec]; exact RDC.bad hd2 (by decide)⟩)
        · skip
          replace c7 := mt (i_eq (a := 0) (b := 0) (by omega) (by omega)).mpr (of_decide_eq_false c7)
          omega
  · skip
    replace c3 := of_decide_eq_false c3
    refine Pv.aload rfl rfl ?_
    refine Pv.lit rfl ?_
    refine Pv.callVI (as := [.ref 3, .int 1]) (rest := []) (z := 0) rfl rfl rfl (c_fail (c := 1)) ?_
    have ec : tnN (T i) lo.toInt hi2.toInt = 1 := if_neg (fun e => c3 ((k_eq (x := 3) hd2.2.2.1.1).mpr e))
    exact Pv.zret rfl (by rw [hQ]; exact ⟨by rw [ec]; rfl, by rw [ec]; exact RDC.bad hd2 (by decide)⟩)
end
-- 63.b77.lg.lean.txt
section
/-! ===== the lines of a LOG: deed, where or who, how many; where it goes on; or what is wrong, and at which token ===== -/
abbrev LL : Type := (Nat × Nat × Nat × Nat) ⊕ (Int32 × Nat)
abbrev ll_y (d w x j : Nat) : LL := Sum.inl (d, w, x, j)
abbrev ll_n (c : Int32) (j : Nat) : LL := Sum.inr (c, j)
def gP (nm : Nat → Int) (v : Int) (g : Nat) : Bool := decide (nm g = v)
def mP (nm : Nat → Int) (v : Int) (g : Nat) : Bool := decide (nm (6 + g) = v)
def ll_num (X : TT) (lo hi : Int) (j : Nat) (K : Nat → LL) : LL := if tnN X lo hi = 0 then K X.v.toNat else ll_n (tnN X lo hi) j
def ll_deed (T : Nat → TT) (nm : Nat → Int) (tg d i : Nat) : LL := if tnW (T (i + 1)) = 0 then (match m_fst (gP nm (T (i + 1)).v) tg with
  | none => ll_n 3 (i + 1)
  | some g => ll_num (T (i + 2)) 0 1 (i + 2) fun s => ll_num (T (i + 3)) 1 250 (i + 3) fun x => ll_y d (2 * g + s) x (i + 4)) else ll_n (tnW (T (i + 1))) (i + 1)
def ll_days (T : Nat → TT) (i : Nat) : LL := ll_num (T (i + 1)) 1 60 (i + 1) fun x => ll_y 4 0 x (i + 2)
def ll_death (T : Nat → TT) (w i : Nat) : LL := if (T (i + 1)).k = 75 then ll_y 3 w 0 (i + 2) else ll_n 1 (i + 1)
def ll (T : Nat → TT) (nm : Nat → Int) (tg tm c i : Nat) : LL :=
  if 72 ≤ (T i).k ∧ (T i).k ≤ 74 then (if 40 ≤ c then ll_n 4 i else ll_deed T nm tg ((T i).k - 72).toNat i)
  else if (T i).k = 76 then (if 40 ≤ c then ll_n 4 i else ll_days T i)
  else if (T i).k = 2 then (match m_fst (mP nm (T i).v) tm with
    | none => ll_n 3 i
    | some w => if 40 ≤ c then ll_n 4 i else ll_death T w i)
  else ll_n 1 i
abbrev LN : Type := Nat → Nat × Nat × Nat
def upn (L : LN) (n : Nat) (x : Nat × Nat × Nat) : LN := fun k => if k = n then x else L k
/-- n lines stand: they, and where it goes on -/
def lgj (T : Nat → TT) (L : LN) (n : Nat) (x : LL) : Option (LN × Nat) := match x with
  | .inl y => if tnS (T y.2.2.2) 59 = 0 then some (upn L n (y.1, y.2.1, y.2.2.1), y.2.2.2 + 1) else none
  | .inr _ => none
def lgn (T : Nat → TT) (nm : Nat → Int) (tg tm n : Nat) (x : Option (LN × Nat)) : Option (LN × Nat) := match x with
  | none => none
  | some y => if (T y.2).k = 0 then none else lgj T y.1 n (ll T nm tg tm n y.2)
def lgs (T : Nat → TT) (nm : Nat → Int) (tg tm : Nat) : Nat → Option (LN × Nat)
  | 0 => some (fun _ => (0, 0, 0), 0)
  | n + 1 => lgn T nm tg tm n (lgs T nm tg tm n)
/-- it ends there: well (0) or not, and at which token -/
def lgz (T : Nat → TT) (x : LL) : Option (Int32 × Nat) := match x with
  | .inl y => if tnS (T y.2.2.2) 59 = 0 then none else some (1, y.2.2.2)
  | .inr z => some z
def lge (T : Nat → TT) (nm : Nat → Int) (tg tm n i : Nat) : Option (Int32 × Nat) := if (T i).k = 0 then some (0, i) else lgz T (ll T nm tg tm n i)
def LGA (T : Nat → TT) (nm : Nat → Int) (tg tm n : Nat) (L : LN) (c : Int32) (j : Nat) : Prop := ∃ i, lgs T nm tg tm n = some (L, i) ∧ lge T nm tg tm n i = some (c, j)
theorem lgs_stop {T : Nat → TT} {nm : Nat → Int} {tg tm n i : Nat} {L : LN} {q : Int32 × Nat} (h : lgs T nm tg tm n = some (L, i)) (e : lge T nm tg tm n i = some q) : lgs T nm tg tm (n + 1) = none := by
  show lgn T nm tg tm n (lgs T nm tg tm n) = none
  rw [h]
  show (if (T i).k = 0 then none else lgj T L n (ll T nm tg tm n i)) = none
  unfold lge at e
  by_cases c : (T i).k = 0
  · rw [if_pos c]
  · rw [if_neg c] at e ⊢
    unfold lgz at e
    unfold lgj
    split at e
    · rename_i y hy
      by_cases d : tnS (T y.2.2.2) 59 = 0
      · rw [if_pos d] at e
        cases e
      · rw [if_neg d]
    · rfl
theorem lgs_none {T : Nat → TT} {nm : Nat → Int} {tg tm n : Nat} (h : lgs T nm tg tm n = none) : ∀ d, lgs T nm tg tm (n + d) = none
  | 0 => h
  | d + 1 => by
    show lgn T nm tg tm (n + d) (lgs T nm tg tm (n + d)) = none
    rw [lgs_none h d]
    rfl
/-- one end alone -/
theorem LGA_one {T : Nat → TT} {nm : Nat → Int} {tg tm n n' : Nat} {L L' : LN} {c c' : Int32} {j j' : Nat} (h : LGA T nm tg tm n L c j) (h' : LGA T nm tg tm n' L' c' j') : n = n' ∧ L = L' ∧ c = c' ∧ j = j' := by
  obtain ⟨i, h1, h2⟩ := h
  obtain ⟨i', h1', h2'⟩ := h'
  have e : n = n' := by
    rcases Nat.lt_trichotomy n n' with c | c | c
    · have z := lgs_none (lgs_stop h1 h2) (n' - (n + 1))
      rw [show n + 1 + (n' - (n + 1)) = n' by omega, h1'] at z
      cases z
    · exact c
    · have z := lgs_none (lgs_stop h1' h2') (n - (n' + 1))
      rw [show n' + 1 + (n - (n' + 1)) = n by omega, h1] at z
      cases z
  subst e
  rw [h1] at h1'
  obtain ⟨rfl, rfl⟩ := Prod.mk.inj (Option.some.inj h1')
  rw [h2] at h2'
  obtain ⟨rfl, rfl⟩ := Prod.mk.inj (Option.some.inj h2')
  exact ⟨rfl, rfl, rfl, rfl⟩
theorem lgs_y {T : Nat → TT} {nm : Nat → Int} {tg tm n i d w x j : Nat} {L : LN} (h : lgs T nm tg tm n = some (L, i)) (h0 : (T i).k ≠ 0) (e : ll T nm tg tm n i = ll_y d w x j) (s : tnS (T j) 59 = 0) : lgs T nm tg tm (n + 1) = some (upn L n (d, w, x), j + 1) := by
  show lgn T nm tg tm n (lgs T nm tg tm n) = _
  rw [h]
  show (if (T i).k = 0 then none else lgj T L n (ll T nm tg tm n i)) = _
  rw [if_neg h0, e]
  exact if_pos s
theorem lge_0 {T : Nat → TT} {nm : Nat → Int} {tg tm n i : Nat} (h : (T i).k = 0) : lge T nm tg tm n i = some (0, i) := if_pos h
theorem lge_n {T : Nat → TT} {nm : Nat → Int} {tg tm n i j : Nat} {c : Int32} (h : (T i).k ≠ 0) (e : ll T nm tg tm n i = ll_n c j) : lge T nm tg tm n i = some (c, j) := by
  unfold lge
  rw [if_neg h, e]
  rfl
theorem lge_s {T : Nat → TT} {nm : Nat → Int} {tg tm n i d w x j : Nat} (h : (T i).k ≠ 0) (e : ll T nm tg tm n i = ll_y d w x j) (s : tnS (T j) 59 ≠ 0) : lge T nm tg tm n i = some (1, j) := by
  unfold lge
  rw [if_neg h, e]
  exact if_neg s
theorem ll_40 {T : Nat → TT} {nm : Nat → Int} {tg tm c i d w x j : Nat} (e : ll T nm tg tm c i = ll_y d w x j) : c < 40 := by
  by_cases h : 40 ≤ c
  · unfold ll at e
    rw [if_pos h, if_pos h] at e
    split at e
    · cases e
    · split at e
      · cases e
      · split at e
        · split at e
          · cases e
          · cases e
        · cases e
  · omega
/-! ===== what reading a line changes ===== -/
def LCX (c : Nat) (F G : FW) : Prop := FX (fun q => q = 3 ∨ (36 ≤ q ∧ q ≤ 39)) F G ∧ (∀ k, k ≠ 4 → k ≠ 5 → k ≠ 6 → k ≠ 7 → k ≠ 9 → G.1 3 k = F.1 3 k) ∧ (∀ k, k ≠ 3 → G.1 36 k = F.1 36 k) ∧ ∀ k, k < c → G.1 37 k = F.1 37 k ∧ G.1 38 k = F.1 38 k ∧ G.1 39 k = F.1 39 k
theorem LCX.of {c : Nat} {F G : FW} (h : RCX F G) : LCX c F G := ⟨h.1.wd fun _ e => Or.inl e, h.2.1, fun k _ => h.1.1 36 k (by decide), fun k _ => ⟨h.1.1 37 k (by decide), h.1.1 38 k (by decide), h.1.1 39 k (by decide)⟩⟩
theorem LCX.tr {c : Nat} {F G K : FW} (a : LCX c F G) (b : LCX c G K) : LCX c F K := ⟨a.1.tr b.1, fun k h1 h2 h3 h4 h5 => (b.2.1 k h1 h2 h3 h4 h5).trans (a.2.1 k h1 h2 h3 h4 h5), fun k h => (b.2.2.1 k h).trans (a.2.2.1 k h), fun k h => ⟨(b.2.2.2 k h).1.trans (a.2.2.2 k h).1, (b.2.2.2 k h).2.1.trans (a.2.2.2 k h).2.1, (b.2.2.2 k h).2.2.trans (a.2.2.2 k h).2.2⟩⟩
theorem LCX.G {c : Nat} {F G : FW} (h : LCX c F G) (g : GW F) : GW G := g.fx h.1
theorem LCX.TK {c : Nat} {F G : FW} {T : Nat → TT} {m : Nat} (h : LCX c F G) (t : TKF F T m) : TKF G T m := by
  have e4 : ∀ j, G.1 4 j = F.1 4 j := fun j => h.1.1 4 j (by decide)
  have e5 : ∀ j, G.1 5 j = F.1 5 j := fun j => h.1.1 5 j (by decide)
  have e6 : ∀ j, G.2.2.1 6 j = F.2.2.1 6 j := fun j => h.1.2.1 6 j (by decide)
  refine ⟨t.1, t.2.1, (h.2.1 3 (by decide) (by decide) (by decide) (by decide) (by decide)).trans t.2.2.1, fun j hj => ?_, t.2.2.2.2⟩
  rw [e4, e5, e6]
  exact t.2.2.2.1 j hj
/-- a line is written down as the c-th -/
def AL (F : FW) (c : Nat) (d w x : Int32) : FW := fp (fp (fp (fp F 37 c d) 38 c w) 39 c x) 36 3 (Int32.ofNat (c + 1))
theorem AL.lcx {F : FW} {c : Nat} {d w x : Int32} : LCX c F (AL F c d w x) :=
  ⟨(((FX.rf.fp (Or.inr (by omega))).fp (Or.inr (by omega))).fp (Or.inr (by omega))).fp (Or.inr (by omega)), fun k _ _ _ _ _ => (fp_ne (Or.inl (by decide))).trans ((fp_ne (Or.inl (by decide))).trans ((fp_ne (Or.inl (by decide))).trans (fp_ne (Or.inl (by decide))))), fun k hk => (fp_ne (Or.inr hk)).trans ((fp_ne (Or.inl (by decide))).trans ((fp_ne (Or.inl (by decide))).trans (fp_ne (Or.inl (by decide))))),
   fun k hk => ⟨(fp_ne (Or.inl (by decide))).trans ((fp_ne (Or.inl (by decide))).trans ((fp_ne (Or.inl (by decide))).trans (fp_ne (Or.inr (by omega))))), (fp_ne (Or.inl (by decide))).trans ((fp_ne (Or.inl (by decide))).trans ((fp_ne (Or.inr (by omega))).trans (fp_ne (Or.inl (by decide))))), (fp_ne (Or.inl (by decide))).trans ((fp_ne (Or.inr (by omega))).trans ((fp_ne (Or.inl (by decide))).trans (fp_ne (Or.inl (by decide)))))⟩⟩
def LIN (F : FW) (c d w x : Nat) : Prop := F.1 36 3 = Int32.ofNat (c + 1) ∧ F.1 37 c = Int32.ofNat d ∧ F.1 38 c = Int32.ofNat w ∧ F.1 39 c = Int32.ofNat x
theorem AL.lin {F : FW} {c d w x : Nat} : LIN (AL F c (Int32.ofNat d) (Int32.ofNat w) (Int32.ofNat x)) c d w x :=
  ⟨fp_eq, (fp_ne (Or.inl (by decide))).trans ((fp_ne (Or.inl (by decide))).trans ((fp_ne (Or.inl (by decide))).trans fp_eq)), (fp_ne (Or.inl (by decide))).trans ((fp_ne (Or.inl (by decide))).trans fp_eq), (fp_ne (Or.inl (by decide))).trans fp_eq⟩
theorem AL.at3 {F : FW} {c k : Nat} {d w x : Int32} : (AL F c d w x).1 3 k = F.1 3 k := (fp_ne (Or.inl (by decide))).trans ((fp_ne (Or.inl (by decide))).trans ((fp_ne (Or.inl (by decide))).trans (fp_ne (Or.inl (by decide)))))
/-- what comes of a line -/
def ll_b (x : LL) : Int32 := match x with
  | .inl _ => 1
  | .inr _ => 0
def LLP (F G : FW) (T : Nat → TT) (m c : Nat) (r : Option Value) (x : LL) : Prop := r = some (.int (ll_b x)) ∧ LCX c F G ∧ match x with
  | .inl y => G.1 3 4 = Int32.ofNat y.2.2.2 ∧ G.1 3 9 = F.1 3 9 ∧ LIN G c y.1 y.2.1 y.2.2.1 ∧ y.2.2.2 < m
  | .inr z => G.1 3 9 = z.1 ∧ CURF G (T z.2)
theorem LLP.mk_n {F G : FW} {T : Nat → TT} {m c j : Nat} {q : Int32} {x : LL} (e : x = ll_n q j) (h : LCX c F G) (h9 : G.1 3 9 = q) (hc : CURF G (T j)) : LLP F G T m c (some (.int 0)) x := by
  rw [e]
  exact ⟨rfl, h, h9, hc⟩
theorem LLP.mk_y {F G : FW} {T : Nat → TT} {m c d w n j : Nat} {x : LL} (e : x = ll_y d w n j) (h : LCX c F G) (h4 : G.1 3 4 = Int32.ofNat j) (h9 : G.1 3 9 = F.1 3 9) (hl : LIN G c d w n) (hj : j < m) : LLP F G T m c (some (.int 1)) x := by
  rw [e]
  exact ⟨rfl, h, h4, h9, hl, hj⟩
theorem LLP.to {F G : FW} {T : Nat → TT} {m c : Nat} {r : Option Value} {x y : LL} (e : x = y) (h : LLP F G T m c r y) : LLP F G T m c r x := by
  rw [e]
  exact h
theorem RDC.ok9 {F G : FW} {X : TT} {i : Nat} {c : Int32} (h : RDC F G X i c) (e : c = 0) : G.1 3 9 = F.1 3 9 := by
  have := h.2.2.2
  rw [if_pos e] at this
  exact this
theorem RDC.bad9 {F G : FW} {X : TT} {i : Nat} {c : Int32} (h : RDC F G X i c) (e : ¬ c = 0) : G.1 3 9 = c := by
  have := h.2.2.2
  rw [if_neg e] at this
  exact this
theorem tnW_k {X : TT} (h : tnW X = 0) : X.k = 2 := by
  unfold tnW at h
  split at h
  · assumption
  · cases h
theorem tnN_k {X : TT} {lo hi : Int} (h : tnN X lo hi = 0) : X.k = 3 ∧ lo ≤ X.v ∧ X.v ≤ hi := by
  unfold tnN at h
  split at h
  · split at h
    · cases h
    · exact ⟨by assumption, by omega, by omega⟩
  · cases h
theorem tnS_k {X : TT} {x : Int} (h : tnS X x = 0) : X.k = x := by
  unfold tnS at h
  split at h
  · assumption
  · cases h
theorem i_ofv {x : Int32} {v : Int} (h : x.toInt = v) (h0 : 0 ≤ v) : x = Int32.ofNat v.toNat := Int32.toInt_inj.mp (by
  have := Int32.toInt_lt x
  rw [i_toInt (by omega)]
  omega)
/-- a good's name is taken: which, and what is wrong -/
def tgz (nm : Nat → Int) (tg : Nat) (X : TT) : Int32 := if tnW X = 0 then oN (m_fst (gP nm X.v) tg) else -1
def tgc (nm : Nat → Int) (tg : Nat) (X : TT) : Int32 := if tnW X = 0 then (if oN (m_fst (gP nm X.v) tg) = -1 then 3 else 0) else tnW X
theorem oN_m {q : Option Nat} {n : Nat} (hq : ∀ k, q = some k → k < n) (hn : n ≤ 8) : oN q = -1 ↔ q = none := by
  cases q with
  | none => exact ⟨fun _ => rfl, fun _ => rfl⟩
  | some k =>
    have b := hq k rfl
    refine ⟨fun h => ?_, fun h => by cases h⟩
    have e : (Int32.ofNat k).toInt = (-1 : Int32).toInt := congrArg Int32.toInt h
    rw [i_toInt (by omega)] at e
    have e1 : (-1 : Int32).toInt = -1 := rfl
    omega
theorem oN_1 {P : Nat → Bool} {n : Nat} (hn : n ≤ 8) : oN (m_fst P n) = -1 ↔ m_fst P n = none := oN_m (fun _ e => (m_fst_lt e).1) hn
theorem tgd_n {T : Nat → TT} {nm : Nat → Int} {tg d i : Nat} (ht : tg ≤ 8) (h : tgz nm tg (T (i + 1)) = -1) : ll_deed T nm tg d i = ll_n (tgc nm tg (T (i + 1))) (i + 1) ∧ ¬ tgc nm tg (T (i + 1)) = 0 := by
  unfold ll_deed
  unfold tgc
  unfold tgz at h
  by_cases c : tnW (T (i + 1)) = 0
  · rw [if_pos c] at h ⊢
    rw [if_pos c, if_pos h, (oN_1 ht).mp h]
    exact ⟨rfl, by decide⟩
  · rw [if_neg c, if_neg c]
    exact ⟨rfl, c⟩
theorem tgd_y {nm : Nat → Int} {tg : Nat} {X : TT} (ht : tg ≤ 8) (h : ¬ tgz nm tg X = -1) : ∃ g, m_fst (gP nm X.v) tg = some g ∧ g < tg ∧ tnW X = 0 ∧ tgz nm tg X = Int32.ofNat g ∧ tgc nm tg X = 0 := by
  unfold tgc
  unfold tgz at h ⊢
  by_cases c : tnW X = 0
  · rw [if_pos c] at h ⊢
    rw [if_pos c, if_neg h]
    cases e : m_fst (gP nm X.v) tg with
    | none =>
      rw [e] at h
      exact absurd rfl h
    | some g => exact ⟨g, rfl, (m_fst_lt e).1, c, rfl, rfl⟩
  · rw [if_neg c] at h
    exact absurd rfl h
end
-- 63.b77a.lean.txt
section
set_option maxRecDepth 100000 in
set_option maxHeartbeats 4000000 in
theorem c_goodNamed {F : FW} {r : Nat} {T : St} {nm : Nat → Int} {w : Int64} {v : Int} (hG : GW F) (hT : TR F r T) (hN : NMC F r T nm) (hw : w.toInt = c32 7 v) (hv : LW 7 v) : Pm Z_X7_goodNamed [.ref r, .long w] F (fun r F' => r = some (.int (oN (m_fst (gP nm v) (t_g T)))) ∧ F' = F) := by
  refine Pm.of fun N => ?_
  obtain ⟨Q, hQ⟩ : ∃ Q : Option Value → FW → Prop, Q = (fun r F' => r = some (.int (oN (m_fst (gP nm v) (t_g T)))) ∧ F' = F) := ⟨_, rfl⟩
  rw [← hQ]
  have b3 := hT.mb
  have b4 := hT.nb
  have b5 := hT.gb
  refine (show Pv (ab_T L_X7_goodNamed) N 0 [some (.ref r), some (.long w), none, none] [] F Q from ?_)
  refine Pv.lit rfl ?_
  refine Pv.istore (lo' := [some (.ref r), some (.long w), none, some (.int 0)]) rfl rfl ?_
  refine Pv.lp (ι := Nat) (lof := fun k => [some (.ref r), some (.long w), none, some (.int (Int32.ofNat k))]) (Ff := fun k => F) (P := fun k => k ≤ t_g T ∧ m_fst (gP nm v) k = none) ?_ 0 (⟨Nat.zero_le _, rfl⟩)
  rintro N1 hN2 k hi3 ih4
  refine (show Pv _ _ 2 [some (.ref r), some (.long w), none, some (.int (Int32.ofNat k))] [] F Q from ?_)
  obtain ⟨hk, hb⟩ := hi3
  refine Pv.iloadS rfl rfl ?_
  refine Pv.aload rfl rfl ?_
  refine Pv.getI (z := Int32.ofNat (t_g T)) rfl rfl (hT.g) ?_
  refine Pv.icmp rfl (fun c5 => ?_) (fun c5 => ?_)
  · skip
    replace c5 := (i_le (a := t_g T) (b := k) (by omega) (by omega)).mp (of_decide_eq_true c5)
    refine Pv.lit rfl ?_
    exact Pv.ret rfl (by rw [hQ]; exact ⟨by rw [show t_g T = k by omega, hb]; rfl, rfl⟩)
  · skip
    replace c5 := mt (i_le (a := t_g T) (b := k) (by omega) (by omega)).mpr (of_decide_eq_false c5)
    refine Pv.aload rfl rfl ?_
    refine Pv.getR (v := .ref (r + 1)) rfl rfl (hT.o 0 (by decide)) ?_
    refine Pv.iload rfl rfl ?_
    refine Pv.lald (z := F.2.2.1 (r + 1) k) rfl (by rw [i_toNat (by omega)]) ?_
    refine Pv.lload rfl rfl ?_
    refine Pv.lcmp (z := lg_cmp (F.2.2.1 (r + 1) k) w) rfl (rfl) ?_
    refine Pv.if0 rfl (fun c6 => ?_) (fun c6 => ?_)
    · skip
      replace c6 : decide (lg_cmp (F.2.2.1 (r + 1) k) w = 0) = false := by simpa using c6
      replace c6 := of_decide_eq_false c6
      refine Pv.iinc (y := Int32.ofNat (k + 1)) (lo' := [some (.ref r), some (.long w), none, some (.int (Int32.ofNat (k + 1)))]) rfl rfl (i_add k 1) rfl ?_
      refine Pv.goto rfl ?_
      exact ih4 (k + 1) (⟨by omega, m_fst_n hb (decide_eq_false (fun e => c6 (lcmp_0.mpr ((nm_eq (hN.1 k (by omega)) hw hv).mpr e))))⟩)
    · skip
      replace c6 : decide (lg_cmp (F.2.2.1 (r + 1) k) w = 0) = true := by simpa using c6
      replace c6 := of_decide_eq_true c6
      refine Pv.iload rfl rfl ?_
      exact Pv.ret rfl (by rw [hQ]; exact ⟨by rw [m_fst_e hb (show decide (nm (k) = v) = true from decide_eq_true ((nm_eq (hN.1 k (by omega)) hw hv).mp (lcmp_0.mp c6))) (by omega)]; rfl, rfl⟩)
set_option maxRecDepth 100000 in
set_option maxHeartbeats 4000000 in
theorem c_manNamed {F : FW} {r : Nat} {T : St} {nm : Nat → Int} {w : Int64} {v : Int} (hG : GW F) (hT : TR F r T) (hN : NMC F r T nm) (hw : w.toInt = c32 7 v) (hv : LW 7 v) : Pm Z_X7_manNamed [.ref r, .long w] F (fun r F' => r = some (.int (oN (m_fst (mP nm v) (t_m T)))) ∧ F' = F) := by
  refine Pm.of fun N => ?_
  obtain ⟨Q, hQ⟩ : ∃ Q : Option Value → FW → Prop, Q = (fun r F' => r = some (.int (oN (m_fst (mP nm v) (t_m T)))) ∧ F' = F) := ⟨_, rfl⟩
  rw [← hQ]
  have b3 := hT.mb
  have b4 := hT.nb
  have b5 := hT.gb
  refine (show Pv (ab_T L_X7_manNamed) N 0 [some (.ref r), some (.long w), none, none] [] F Q from ?_)
  refine Pv.lit rfl ?_
  refine Pv.istore (lo' := [some (.ref r), some (.long w), none, some (.int 0)]) rfl rfl ?_
  refine Pv.lp (ι := Nat) (lof := fun k => [some (.ref r), some (.long w), none, some (.int (Int32.ofNat k))]) (Ff := fun k => F) (P := fun k => k ≤ t_m T ∧ m_fst (mP nm v) k = none) ?_ 0 (⟨Nat.zero_le _, rfl⟩)
  rintro N1 hN2 k hi3 ih4
  refine (show Pv _ _ 2 [some (.ref r), some (.long w), none, some (.int (Int32.ofNat k))] [] F Q from ?_)
  obtain ⟨hk, hb⟩ := hi3
  refine Pv.iloadS rfl rfl ?_
  refine Pv.aload rfl rfl ?_
  refine Pv.getI (z := Int32.ofNat (t_m T)) rfl rfl (hT.m) ?_
  refine Pv.icmp rfl (fun c5 => ?_) (fun c5 => ?_)
  · skip
    replace c5 := (i_le (a := t_m T) (b := k) (by omega) (by omega)).mp (of_decide_eq_true c5)
    refine Pv.lit rfl ?_
    exact Pv.ret rfl (by rw [hQ]; exact ⟨by rw [show t_m T = k by omega, hb]; rfl, rfl⟩)
  · skip
    replace c5 := mt (i_le (a := t_m T) (b := k) (by omega) (by omega)).mpr (of_decide_eq_false c5)
    refine Pv.aload rfl rfl ?_
    refine Pv.getR (v := .ref (r + 2)) rfl rfl (hT.o 1 (by decide)) ?_
    refine Pv.iload rfl rfl ?_
    refine Pv.lald (z := F.2.2.1 (r + 2) k) rfl (by rw [i_toNat (by omega)]) ?_
    refine Pv.lload rfl rfl ?_
    refine Pv.lcmp (z := lg_cmp (F.2.2.1 (r + 2) k) w) rfl (rfl) ?_
    refine Pv.if0 rfl (fun c6 => ?_) (fun c6 => ?_)
    · skip
      replace c6 : decide (lg_cmp (F.2.2.1 (r + 2) k) w = 0) = false := by simpa using c6
      replace c6 := of_decide_eq_false c6
      refine Pv.iinc (y := Int32.ofNat (k + 1)) (lo' := [some (.ref r), some (.long w), none, some (.int (Int32.ofNat (k + 1)))]) rfl rfl (i_add k 1) rfl ?_
      refine Pv.goto rfl ?_
      exact ih4 (k + 1) (⟨by omega, m_fst_n hb (decide_eq_false (fun e => c6 (lcmp_0.mpr ((nm_eq (hN.2 k (by omega)) hw hv).mpr e))))⟩)
    · skip
      replace c6 : decide (lg_cmp (F.2.2.1 (r + 2) k) w = 0) = true := by simpa using c6
      replace c6 := of_decide_eq_true c6
      refine Pv.iload rfl rfl ?_
      exact Pv.ret rfl (by rw [hQ]; exact ⟨by rw [m_fst_e hb (show decide (nm (6 + k) = v) = true from decide_eq_true ((nm_eq (hN.2 k (by omega)) hw hv).mp (lcmp_0.mp c6))) (by omega)]; rfl, rfl⟩)
set_option maxRecDepth 100000 in
set_option maxHeartbeats 4000000 in
theorem c_addLine {F : FW} {c : Nat} (hG : GW F) (h3 : F.1 36 3 = Int32.ofNat c) (hc : c < 40) (d w x : Int32) : Pm Z_X4_addLine [.ref 36, .int d, .int w, .int x] F (fun r F' => r = some (.int 1) ∧ F' = AL F c d w x) := by
  refine Pm.of fun N => ?_
  obtain ⟨Q, hQ⟩ : ∃ Q : Option Value → FW → Prop, Q = (fun r F' => r = some (.int 1) ∧ F' = AL F c d w x) := ⟨_, rfl⟩
  rw [← hQ]
  refine (show Pv (ab_T L_X4_addLine) N 0 [some (.ref 36), some (.int d), some (.int w), some (.int x)] [] F Q from ?_)
  refine Pv.aload rfl rfl ?_
  refine Pv.getR (v := .ref 37) rfl rfl (GW.at (a := 36) (k := 0) (b := 37) hG (by decide)) ?_
  refine Pv.aload rfl rfl ?_
  refine Pv.getI (z := Int32.ofNat c) rfl rfl (h3) ?_
  refine Pv.iload rfl rfl ?_
  refine Pv.astk (k := c) (z := d) rfl (i_toNat (by omega)) (rfl) ?_
  refine Pv.aload rfl rfl ?_
  refine Pv.getR (v := .ref 38) rfl rfl (GW.at (a := 36) (k := 1) (b := 38) hG (by decide)) ?_
  refine Pv.aload rfl rfl ?_
  refine Pv.getI (z := Int32.ofNat c) rfl rfl ((fp_ne (Or.inl (by decide))).trans (h3)) ?_
  refine Pv.iload rfl rfl ?_
  refine Pv.astk (k := c) (z := w) rfl (i_toNat (by omega)) (rfl) ?_
  refine Pv.aload rfl rfl ?_
  refine Pv.getR (v := .ref 39) rfl rfl (GW.at (a := 36) (k := 2) (b := 39) hG (by decide)) ?_
  refine Pv.aload rfl rfl ?_
  refine Pv.getI (z := Int32.ofNat c) rfl rfl ((fp_ne (Or.inl (by decide))).trans ((fp_ne (Or.inl (by decide))).trans (h3))) ?_
  refine Pv.iload rfl rfl ?_
  refine Pv.astk (k := c) (z := x) rfl (i_toNat (by omega)) (rfl) ?_
  refine Pv.aload rfl rfl ?_
  refine Pv.dup rfl ?_
  refine Pv.getI (z := Int32.ofNat c) rfl rfl ((fp_ne (Or.inl (by decide))).trans ((fp_ne (Or.inl (by decide))).trans ((fp_ne (Or.inl (by decide))).trans (h3)))) ?_
  refine Pv.lit rfl ?_
  refine Pv.bin (z := Int32.ofNat (c + 1)) rfl (i_add c 1) ?_
  refine Pv.putI rfl rfl ?_
  refine Pv.lit rfl ?_
  exact Pv.zret rfl (by rw [hQ]; exact ⟨rfl, rfl⟩)
set_option maxRecDepth 100000 in
set_option maxHeartbeats 4000000 in
theorem c_readDays {F : FW} {K : Nat → TT} {m i c : Nat} (hG : GW F) (hT : TKF F K m) (h4 : F.1 3 4 = Int32.ofNat (i + 1)) (hi : i + 1 < m) (h3 : F.1 36 3 = Int32.ofNat c) (hc40 : c < 40) : Pm Z_X4_readDays [.ref 36, .ref 3] F (fun r F' => LLP F F' K m c r (ll_days K i)) := by
  refine Pm.of fun N => ?_
  obtain ⟨Q, hQ⟩ : ∃ Q : Option Value → FW → Prop, Q = (fun r F' => LLP F F' K m c r (ll_days K i)) := ⟨_, rfl⟩
  rw [← hQ]
  refine (show Pv (ab_T (L_X4_readDays Z_X9_takeNumber Z_X4_addLine)) N 0 [some (.ref 36), some (.ref 3)] [] F Q from ?_)
  refine Pv.aload rfl rfl ?_
  refine Pv.lit rfl ?_
  refine Pv.lit rfl ?_
  refine Pv.callV (as := [.ref 3, .int 1, .int 60]) (rest := []) rfl rfl rfl (c_takeNumber hG hT h4 hi 1 60) ?_
  rintro _ G1 ⟨rfl, hd2x⟩
  have hd2 : RDC F G1 (K (i + 1)) (i + 1) (tnN (K (i + 1)) 1 60) := hd2x
  have tk3 := RCX.TK hd2.1 hT
  have gw4 := RCX.G hd2.1 hG
  have hc5 : G1.1 36 3 = Int32.ofNat c := (hd2.1.1.1 36 3 (by decide)).trans h3
  refine (show Pv _ _ 7 [some (.ref 36), some (.ref 3)] [.int (b2i (decide (tnN (K (i + 1)) 1 60 = 0)))] G1 Q from ?_)
  refine Pv.if0 rfl (fun c6 => ?_) (fun c6 => ?_)
  · skip
    replace c6 := of_decide_eq_true c6
    replace c6 := b2z.mp c6
    refine Pv.lit rfl ?_
    exact Pv.zret rfl (by rw [hQ]; exact LLP.mk_n (show ll_days K i = ll_n (tnN (K (i + 1)) 1 60) (i + 1) from if_neg (of_decide_eq_false c6)) (LCX.of hd2.1) (hd2.bad9 (of_decide_eq_false c6)) hd2.2.2.1)
  · skip
    replace c6 := of_decide_eq_false c6
    replace c6 := b2n.mp c6
    refine Pv.aload rfl rfl ?_
    refine Pv.lit rfl ?_
    refine Pv.lit rfl ?_
    refine Pv.aload rfl rfl ?_
    refine Pv.getI (z := G1.1 3 7) rfl rfl (rfl) ?_
    refine Pv.callVI (as := [.ref 36, .int 4, .int 0, .int (G1.1 3 7)]) (rest := []) (z := 1) rfl rfl rfl (c_addLine gw4 hc5 (by omega) 4 0 (G1.1 3 7)) ?_
    refine Pv.if0 rfl (fun c7 => ?_) (fun c7 => ?_)
    · skip
      replace c7 := (i_eq (a := 1) (b := 0) (by omega) (by omega)).mp (of_decide_eq_true c7)
      omega
    · skip
      replace c7 := mt (i_eq (a := 1) (b := 0) (by omega) (by omega)).mpr (of_decide_eq_false c7)
      refine Pv.lit rfl ?_
      refine Pv.goto rfl ?_
      have kn := tnN_k (of_decide_eq_true c6)
      have e7 := i_ofv (hd2.2.2.1.2.2.1 kn.1) (by omega)
      have ku := hT.up hi (by rw [kn.1]; decide) (by rw [kn.1]; decide)
      exact Pv.zret rfl (by rw [hQ]; exact LLP.mk_y (show ll_days K i = ll_y 4 0 (K (i + 1)).v.toNat (i + 2) from if_pos (of_decide_eq_true c6)) ((LCX.of hd2.1).tr AL.lcx) (AL.at3.trans hd2.2.1) (AL.at3.trans (hd2.ok9 (of_decide_eq_true c6))) (by rw [e7]; exact AL.lin (d := 4) (w := 0)) ku)
set_option maxRecDepth 100000 in
set_option maxHeartbeats 4000000 in
theorem c_readDeath {F : FW} {K : Nat → TT} {m i c : Nat} (hG : GW F) (hT : TKF F K m) (h4 : F.1 3 4 = Int32.ofNat (i + 1)) (hi : i + 1 < m) (h3 : F.1 36 3 = Int32.ofNat c) (hc40 : c < 40) (w : Nat) : Pm Z_X4_readDeath [.ref 36, .ref 3, .int (Int32.ofNat w)] F (fun r F' => LLP F F' K m c r (ll_death K w i)) := by
  refine Pm.of fun N => ?_
  obtain ⟨Q, hQ⟩ : ∃ Q : Option Value → FW → Prop, Q = (fun r F' => LLP F F' K m c r (ll_death K w i)) := ⟨_, rfl⟩
  rw [← hQ]
  refine (show Pv (ab_T (L_X4_readDeath Z_X9_step Z_X4_addLine Z_X9_fail)) N 0 [some (.ref 36), some (.ref 3), some (.int (Int32.ofNat w))] [] F Q from ?_)
  refine Pv.aload rfl rfl ?_
  refine Pv.callV (as := [.ref 3]) (rest := []) rfl rfl rfl (c_step hG hT h4 hi) ?_
  rintro _ G1 ⟨rfl, hd2x⟩
  have hd2 : RDC F G1 (K (i + 1)) (i + 1) (0) := hd2x
  have tk3 := RCX.TK hd2.1 hT
  have gw4 := RCX.G hd2.1 hG
  have hc5 : G1.1 36 3 = Int32.ofNat c := (hd2.1.1.1 36 3 (by decide)).trans h3
  refine (show Pv _ _ 4 [some (.ref 36), some (.ref 3), some (.int (Int32.ofNat w))] [] G1 Q from ?_)
  refine Pv.aload rfl rfl ?_
  refine Pv.getI (z := G1.1 3 5) rfl rfl (rfl) ?_
  refine Pv.lit rfl ?_
  refine Pv.icmp rfl (fun c6 => ?_) (fun c6 => ?_)
  · skip
    replace c6 : decide (G1.1 3 5 = 75) = false := by simpa using c6
    replace c6 := of_decide_eq_false c6
    refine Pv.aload rfl rfl ?_
    refine Pv.lit rfl ?_
    refine Pv.callVI (as := [.ref 3, .int 1]) (rest := []) (z := 0) rfl rfl rfl (c_fail (c := 1)) ?_
    exact Pv.zret rfl (by rw [hQ]; exact LLP.mk_n (show ll_death K w i = ll_n 1 (i + 1) from if_neg (fun e => c6 ((k_eq (x := 75) hd2.2.2.1.1).mpr e))) (LCX.of (hd2.1.fp (Or.inr (Or.inr (Or.inr (Or.inr rfl)))))) fp_eq hd2.2.2.1.p9)
  · skip
    replace c6 : decide (G1.1 3 5 = 75) = true := by simpa using c6
    replace c6 := of_decide_eq_true c6
    refine Pv.aload rfl rfl ?_
    refine Pv.lit rfl ?_
    refine Pv.iload rfl rfl ?_
    refine Pv.lit rfl ?_
    refine Pv.callVI (as := [.ref 36, .int 3, .int (Int32.ofNat w), .int 0]) (rest := []) (z := 1) rfl rfl rfl (c_addLine gw4 hc5 (by omega) 3 (Int32.ofNat w) 0) ?_
    refine Pv.goto rfl ?_
    have k7 : (K (i + 1)).k = 75 := (k_eq (x := 75) hd2.2.2.1.1).mp c6
    have ku := hT.up hi (by rw [k7]; decide) (by rw [k7]; decide)
    exact Pv.zret rfl (by rw [hQ]; exact LLP.mk_y (show ll_death K w i = ll_y 3 w 0 (i + 2) from if_pos k7) ((LCX.of hd2.1).tr AL.lcx) (AL.at3.trans hd2.2.1) (AL.at3.trans (hd2.ok9 rfl)) (AL.lin (d := 3) (x := 0)) ku)
end
-- 63.b78a.lean.txt
section
set_option maxRecDepth 100000 in
set_option maxHeartbeats 4000000 in
theorem c_takeGood {F : FW} {K : Nat → TT} {m i : Nat} (hG : GW F) (hT : TKF F K m) (h4 : F.1 3 4 = Int32.ofNat i) (hi : i < m) {r : Nat} {E : St} {nm : Nat → Int} (hE : TR F r E) (hN : NMC F r E nm) (hr : 40 ≤ r) : Pm Z_X7_takeGood [.ref r, .ref 3] F (fun r' F' => r' = some (.int (tgz nm (t_g E) (K i))) ∧ RDC F F' (K i) i (tgc nm (t_g E) (K i))) := by
  refine Pm.of fun N => ?_
  obtain ⟨Q, hQ⟩ : ∃ Q : Option Value → FW → Prop, Q = (fun r' F' => r' = some (.int (tgz nm (t_g E) (K i))) ∧ RDC F F' (K i) i (tgc nm (t_g E) (K i))) := ⟨_, rfl⟩
  rw [← hQ]
  refine (show Pv (ab_T (L_X7_takeGood Z_X9_takeName Z_X7_goodNamed Z_X9_fail)) N 0 [some (.ref r), some (.ref 3), none] [] F Q from ?_)
  refine Pv.aload rfl rfl ?_
  refine Pv.callV (as := [.ref 3]) (rest := []) rfl rfl rfl (c_takeName hG hT h4 hi) ?_
  rintro _ G1 ⟨rfl, hd2⟩
  have gw := RCX.G hd2.1 hG
  refine (show Pv _ _ 4 [some (.ref r), some (.ref 3), none] [.int (b2i (decide (tnW (K i) = 0)))] G1 Q from ?_)
  refine Pv.if0 rfl (fun c3 => ?_) (fun c3 => ?_)
  · skip
    replace c3 : decide (b2i (decide (tnW (K i) = 0)) = 0) = false := by simpa using c3
    replace c3 := of_decide_eq_false c3
    replace c3 := b2n.mp c3
    have h0 : tnW (K i) = 0 := (of_decide_eq_true c3)
    have k2 := tnW_k h0
    have hd0 : RDC F G1 (K i) i 0 := by have q := hd2; rw [h0] at q; exact q
    have hE2 := hE.fx (P := fun q => q = 3) hd0.1.1 (fun q h1 h2 (c : q = 3) => by omega)
    have hN2 := hN.fx (P := fun q => q = 3) hd0.1.1 (show ¬ r + 1 = 3 by omega) (show ¬ r + 2 = 3 by omega)
    refine Pv.aload rfl rfl ?_
    refine Pv.aload rfl rfl ?_
    refine Pv.getL (z := G1.2.2.1 3 8) rfl rfl (rfl) ?_
    refine Pv.callVI (as := [.ref r, .long (G1.2.2.1 3 8)]) (rest := []) (z := oN (m_fst (gP nm (K i).v) (t_g E))) rfl rfl rfl (c_goodNamed gw hE2 hN2 (hd0.2.2.1.2.2.2 k2) ((hT.v hi).2 k2)) ?_
    refine Pv.istore (lo' := [some (.ref r), some (.ref 3), some (.int (oN (m_fst (gP nm (K i).v) (t_g E))))]) rfl rfl ?_
    refine Pv.iload rfl rfl ?_
    refine Pv.lit rfl ?_
    refine Pv.icmp rfl (fun c4 => ?_) (fun c4 => ?_)
    · skip
      replace c4 : decide (oN (m_fst (gP nm (K i).v) (t_g E)) = (-1)) = false := by simpa using c4
      replace c4 := of_decide_eq_false c4
      refine Pv.iload rfl rfl ?_
      exact Pv.ret rfl (by rw [hQ]; exact ⟨by rw [show tgz nm (t_g E) (K i) = _ from if_pos h0], by rw [show tgc nm (t_g E) (K i) = 0 from (if_pos h0).trans (if_neg c4)]; exact hd0⟩)
    · skip
      replace c4 : decide (oN (m_fst (gP nm (K i).v) (t_g E)) = (-1)) = true := by simpa using c4
      replace c4 := of_decide_eq_true c4
      refine Pv.aload rfl rfl ?_
      refine Pv.lit rfl ?_
      refine Pv.callVI (as := [.ref 3, .int 3]) (rest := []) (z := 0) rfl rfl rfl (c_fail (c := 3)) ?_
      refine Pv.pop rfl ?_
      refine Pv.iload rfl rfl ?_
      exact Pv.ret rfl (by rw [hQ]; exact ⟨by rw [show tgz nm (t_g E) (K i) = _ from if_pos h0], by rw [show tgc nm (t_g E) (K i) = 3 from (if_pos h0).trans (if_pos c4)]; exact hd0.bad (by decide)⟩)
  · skip
    replace c3 : decide (b2i (decide (tnW (K i) = 0)) = 0) = true := by simpa using c3
    replace c3 := of_decide_eq_true c3
    replace c3 := b2z.mp c3
    refine Pv.lit rfl ?_
    have h1 := (of_decide_eq_false c3)
    exact Pv.ret rfl (by rw [hQ]; exact ⟨by rw [show tgz nm (t_g E) (K i) = -1 from if_neg h1], by rw [show tgc nm (t_g E) (K i) = tnW (K i) from if_neg h1]; exact hd2⟩)
set_option maxRecDepth 100000 in
set_option maxHeartbeats 4000000 in
theorem c_readDeed {F : FW} {K : Nat → TT} {m i c : Nat} (hG : GW F) (hT : TKF F K m) (h4 : F.1 3 4 = Int32.ofNat (i + 1)) (hi : i + 1 < m) (h3 : F.1 36 3 = Int32.ofNat c) (hc40 : c < 40) {r : Nat} {E : St} {nm : Nat → Int} (hE : TR F r E) (hN : NMC F r E nm) (hr : 40 ≤ r) (d : Nat) : Pm Z_X4_readDeed [.ref 36, .ref 3, .ref r, .int (Int32.ofNat d)] F (fun r' F' => LLP F F' K m c r' (ll_deed K nm (t_g E) d i)) := by
  refine Pm.of fun N => ?_
  obtain ⟨Q, hQ⟩ : ∃ Q : Option Value → FW → Prop, Q = (fun r' F' => LLP F F' K m c r' (ll_deed K nm (t_g E) d i)) := ⟨_, rfl⟩
  rw [← hQ]
  have b5 := hE.gb
  refine (show Pv (ab_T (L_X4_readDeed Z_X7_takeGood Z_X9_takeNumber Z_X10_slotOf Z_X4_addLine)) N 0 [some (.ref 36), some (.ref 3), some (.ref r), some (.int (Int32.ofNat d)), none, none] [] F Q from ?_)
  refine Pv.aload rfl rfl ?_
  refine Pv.aload rfl rfl ?_
  refine Pv.callV (as := [.ref r, .ref 3]) (rest := []) rfl rfl rfl (c_takeGood hG hT h4 hi hE hN hr) ?_
  rintro _ G1 ⟨rfl, hd2x⟩
  have hd2 : RDC F G1 (K (i + 1)) (i + 1) (tgc nm (t_g E) (K (i + 1))) := hd2x
  have tk3 := RCX.TK hd2.1 hT
  have gw4 := RCX.G hd2.1 hG
  have hc5 : G1.1 36 3 = Int32.ofNat c := (hd2.1.1.1 36 3 (by decide)).trans h3
  refine (show Pv _ _ 5 [some (.ref 36), some (.ref 3), some (.ref r), some (.int (Int32.ofNat d)), none, none] [.int (tgz nm (t_g E) (K (i + 1)))] G1 Q from ?_)
  refine Pv.istore (lo' := [some (.ref 36), some (.ref 3), some (.ref r), some (.int (Int32.ofNat d)), some (.int (tgz nm (t_g E) (K (i + 1)))), none]) rfl rfl ?_
  refine Pv.iload rfl rfl ?_
  refine Pv.lit rfl ?_
  refine Pv.icmp rfl (fun c6 => ?_) (fun c6 => ?_)
  · skip
    replace c6 := of_decide_eq_true c6
    refine Pv.lit rfl ?_
    have tn := tgd_n (T := K) (d := d) (i := i) (by omega) c6
    exact Pv.zret rfl (by rw [hQ]; exact LLP.mk_n tn.1 (LCX.of hd2.1) (hd2.bad9 tn.2) hd2.2.2.1)
  · skip
    replace c6 := of_decide_eq_false c6
    obtain ⟨g, hg, hgl, hw, hz, hcc⟩ := tgd_y (X := K (i + 1)) (by omega) c6
    have k2 := tnW_k hw
    have ku := hT.up hi (by rw [k2]; decide) (by rw [k2]; decide)
    rw [hz]
    refine Pv.aload rfl rfl ?_
    refine Pv.lit rfl ?_
    refine Pv.lit rfl ?_
    refine Pv.callV (as := [.ref 3, .int 0, .int 1]) (rest := []) rfl rfl rfl (c_takeNumber gw4 tk3 hd2.2.1 ku 0 1) ?_
    rintro _ G7 ⟨rfl, hd8x⟩
    have hd8 : RDC G1 G7 (K (i + 2)) (i + 2) (tnN (K (i + 2)) 0 1) := hd8x
    have tk9 := RCX.TK hd8.1 tk3
    have gw10 := RCX.G hd8.1 gw4
    have hc11 : G7.1 36 3 = Int32.ofNat c := (hd8.1.1.1 36 3 (by decide)).trans hc5
    refine (show Pv _ _ 19 [some (.ref 36), some (.ref 3), some (.ref r), some (.int (Int32.ofNat d)), some (.int (Int32.ofNat g)), none] [.int (b2i (decide (tnN (K (i + 2)) 0 1 = 0)))] G7 Q from ?_)
    refine Pv.if0 rfl (fun c12 => ?_) (fun c12 => ?_)
    · skip
      replace c12 : decide (b2i (decide (tnN (K (i + 2)) 0 1 = 0)) = 0) = false := by simpa using c12
      replace c12 := of_decide_eq_false c12
      replace c12 := b2n.mp c12
      have kn1 := tnN_k (of_decide_eq_true c12)
      have e7 : G7.1 3 7 = Int32.ofNat (K (i + 2)).v.toNat := i_ofv (hd8.2.2.1.2.2.1 kn1.1) (by omega)
      have ku2 := hT.up ku (by rw [kn1.1]; decide) (by rw [kn1.1]; decide)
      refine Pv.iload rfl rfl ?_
      refine Pv.aload rfl rfl ?_
      refine Pv.getI (z := Int32.ofNat ((K (i + 2)).v.toNat)) rfl rfl (e7) ?_
      refine Pv.callI (as := [.int (Int32.ofNat g), .int (Int32.ofNat ((K (i + 2)).v.toNat))]) (rest := []) (z := Int32.ofNat (2 * g + ((K (i + 2)).v.toNat))) rfl rfl rfl (f_slotOf (g := g) (s := (K (i + 2)).v.toNat)) ?_
      refine Pv.istore (lo' := [some (.ref 36), some (.ref 3), some (.ref r), some (.int (Int32.ofNat d)), some (.int (Int32.ofNat g)), some (.int (Int32.ofNat (2 * g + ((K (i + 2)).v.toNat))))]) rfl rfl ?_
      refine Pv.aload rfl rfl ?_
      refine Pv.lit rfl ?_
      refine Pv.lit rfl ?_
      refine Pv.callV (as := [.ref 3, .int 1, .int 250]) (rest := []) rfl rfl rfl (c_takeNumber gw10 tk9 hd8.2.1 ku2 1 250) ?_
      rintro _ G13 ⟨rfl, hd14x⟩
      have hd14 : RDC G7 G13 (K (i + 3)) (i + 3) (tnN (K (i + 3)) 1 250) := hd14x
      have tk15 := RCX.TK hd14.1 tk9
      have gw16 := RCX.G hd14.1 gw10
      have hc17 : G13.1 36 3 = Int32.ofNat c := (hd14.1.1.1 36 3 (by decide)).trans hc11
      refine (show Pv _ _ 43 [some (.ref 36), some (.ref 3), some (.ref r), some (.int (Int32.ofNat d)), some (.int (Int32.ofNat g)), some (.int (Int32.ofNat (2 * g + ((K (i + 2)).v.toNat))))] [.int (b2i (decide (tnN (K (i + 3)) 1 250 = 0)))] G13 Q from ?_)
      refine Pv.if0 rfl (fun c18 => ?_) (fun c18 => ?_)
      · skip
        replace c18 := of_decide_eq_true c18
        replace c18 := b2z.mp c18
        refine Pv.lit rfl ?_
        exact Pv.zret rfl (by rw [hQ]; exact LLP.mk_n (by unfold ll_deed; rw [if_pos hw, hg]; exact (if_pos (of_decide_eq_true c12)).trans (if_neg (of_decide_eq_false c18))) (LCX.tr (LCX.tr (LCX.of hd2.1) (LCX.of hd8.1)) (LCX.of hd14.1)) (hd14.bad9 (of_decide_eq_false c18)) hd14.2.2.1)
      · skip
        replace c18 := of_decide_eq_false c18
        replace c18 := b2n.mp c18
        have kn2 := tnN_k (of_decide_eq_true c18)
        have e8 : G13.1 3 7 = Int32.ofNat (K (i + 3)).v.toNat := i_ofv (hd14.2.2.1.2.2.1 kn2.1) (by omega)
        have ku3 := hT.up ku2 (by rw [kn2.1]; decide) (by rw [kn2.1]; decide)
        refine Pv.aload rfl rfl ?_
        refine Pv.iload rfl rfl ?_
        refine Pv.iload rfl rfl ?_
        refine Pv.aload rfl rfl ?_
        refine Pv.getI (z := Int32.ofNat ((K (i + 3)).v.toNat)) rfl rfl (e8) ?_
        refine Pv.callVI (as := [.ref 36, .int (Int32.ofNat d), .int (Int32.ofNat (2 * g + ((K (i + 2)).v.toNat))), .int (Int32.ofNat ((K (i + 3)).v.toNat))]) (rest := []) (z := 1) rfl rfl rfl (c_addLine gw16 hc17 (by omega) (Int32.ofNat d) (Int32.ofNat (2 * g + ((K (i + 2)).v.toNat))) (Int32.ofNat ((K (i + 3)).v.toNat))) ?_
        refine Pv.if0 rfl (fun c19 => ?_) (fun c19 => ?_)
        · skip
          replace c19 := (i_eq (a := 1) (b := 0) (by omega) (by omega)).mp (of_decide_eq_true c19)
          omega
        · skip
          replace c19 := mt (i_eq (a := 1) (b := 0) (by omega) (by omega)).mpr (of_decide_eq_false c19)
          refine Pv.lit rfl ?_
          refine Pv.goto rfl ?_
          exact Pv.zret rfl (by rw [hQ]; exact LLP.mk_y (by unfold ll_deed; rw [if_pos hw, hg]; exact (if_pos (of_decide_eq_true c12)).trans (if_pos (of_decide_eq_true c18))) (LCX.tr (LCX.tr (LCX.tr (LCX.of hd2.1) (LCX.of hd8.1)) (LCX.of hd14.1)) AL.lcx) (AL.at3.trans hd14.2.1) (AL.at3.trans ((hd14.ok9 (of_decide_eq_true c18)).trans ((hd8.ok9 (of_decide_eq_true c12)).trans (hd2.ok9 hcc)))) AL.lin ku3)
    · skip
      replace c12 : decide (b2i (decide (tnN (K (i + 2)) 0 1 = 0)) = 0) = true := by simpa using c12
      replace c12 := of_decide_eq_true c12
      replace c12 := b2z.mp c12
      refine Pv.lit rfl ?_
      exact Pv.zret rfl (by rw [hQ]; exact LLP.mk_n (by unfold ll_deed; rw [if_pos hw, hg]; exact if_neg (of_decide_eq_false c12)) (LCX.tr (LCX.of hd2.1) (LCX.of hd8.1)) (hd8.bad9 (of_decide_eq_false c12)) hd8.2.2.1)
end
-- 63.b79.ln.lean.txt
section
/-! ===== a line, whatever it is ===== -/
theorem kd72 {a : Int32} {k : Int} (h : a.toInt = k) (h1 : 72 ≤ k) (h2 : k ≤ 74) : a - 72 = Int32.ofNat (k - 72).toNat := by
  have e : (72 : Int32).toInt = 72 := rfl
  refine i_ofv (v := k - 72) ?_ (by omega)
  rw [i_subI (by omega) (by omega), h, e]
theorem mn_y {q : Option Nat} (h : ¬ oN q = -1) : ∃ w, q = some w ∧ oN q = Int32.ofNat w := by
  cases q with
  | none => exact absurd rfl h
  | some w => exact ⟨w, rfl, rfl⟩
/-- the lines that stand -/
def LNS (F : FW) (L : LN) (n : Nat) : Prop := ∀ l, l < n → F.1 37 l = Int32.ofNat (L l).1 ∧ F.1 38 l = Int32.ofNat (L l).2.1 ∧ F.1 39 l = Int32.ofNat (L l).2.2
theorem LNS.z {F : FW} {L : LN} : LNS F L 0 := fun _ h => absurd h (Nat.not_lt_zero _)
theorem LNS.k {c : Nat} {F G : FW} {L : LN} (h : LNS F L c) (x : LCX c F G) : LNS G L c := fun l hl => ⟨(x.2.2.2 l hl).1.trans (h l hl).1, (x.2.2.2 l hl).2.1.trans (h l hl).2.1, (x.2.2.2 l hl).2.2.trans (h l hl).2.2⟩
theorem LNS.s {c d w n : Nat} {G : FW} {L : LN} (h : LNS G L c) (x : LIN G c d w n) : LNS G (upn L c (d, w, n)) (c + 1) := fun l hl => by
  unfold upn
  by_cases e : l = c
  · rw [if_pos e, e]
    exact x.2
  · rw [if_neg e]
    exact h l (by omega)
/-- what reading a whole text changes -/
def TXX (F G : FW) : Prop := FX (fun q => q = 3 ∨ (36 ≤ q ∧ q ≤ 39)) F G ∧ ∀ k, k ≠ 3 → G.1 36 k = F.1 36 k
theorem LCX.tx {c : Nat} {F G : FW} (h : LCX c F G) : TXX F G := ⟨h.1, h.2.2.1⟩
theorem TXX.rf {F : FW} : TXX F F := ⟨FX.rf, fun _ _ => rfl⟩
theorem TXX.tr {F G H : FW} (a : TXX F G) (b : TXX G H) : TXX F H := ⟨a.1.tr b.1, fun k h => (b.2 k h).trans (a.2 k h)⟩
/-- what is read at the end -/
def LGR (G : FW) (T : Nat → TT) (nm : Nat → Int) (tg tm : Nat) : Prop := ∃ n L c j, LGA T nm tg tm n L c j ∧ (c = 0 → G.1 36 3 = Int32.ofNat n ∧ LNS G L n) ∧ n ≤ 40 ∧ G.1 3 9 = c ∧ CURF G (T j)
theorem LGR.mk {G : FW} {T : Nat → TT} {nm : Nat → Int} {tg tm n i j : Nat} {L : LN} {c : Int32} (h1 : lgs T nm tg tm n = some (L, i)) (h2 : lge T nm tg tm n i = some (c, j)) (h3 : c = 0 → G.1 36 3 = Int32.ofNat n ∧ LNS G L n) (h4 : n ≤ 40) (h5 : G.1 3 9 = c) (h6 : CURF G (T j)) : LGR G T nm tg tm := ⟨n, L, c, j, ⟨i, h1, h2⟩, h3, h4, h5, h6⟩
theorem ll_b0 {x : LL} (h : ll_b x = 0) : ∃ c j, x = ll_n c j := by
  cases x with
  | inl y => exact absurd h (show ¬ (1 : Int32) = 0 by decide)
  | inr z => exact ⟨z.1, z.2, rfl⟩
theorem ll_b1 {x : LL} (h : ¬ ll_b x = 0) : ∃ d w n j, x = ll_y d w n j := by
  cases x with
  | inl y => exact ⟨y.1, y.2.1, y.2.2.1, y.2.2.2, rfl⟩
  | inr z => exact absurd rfl h
theorem tnS_1 {X : TT} {x : Int} (h : ¬ tnS X x = 0) : tnS X x = 1 := by
  unfold tnS at h ⊢
  split
  · rename_i c
    rw [if_pos c] at h
    exact absurd rfl h
  · rfl
theorem ll_nz {T : Nat → TT} {nm : Nat → Int} {tg tm c i j : Nat} {q : Int32} (e : ll T nm tg tm c i = ll_n q j) : ¬ q = 0 := by
  unfold ll ll_deed ll_days ll_death ll_num at e
  repeat' split at e
  all_goals cases e
  all_goals first | decide | assumption
theorem RCX_tk36 {F : FW} {T : Nat → TT} {m k : Nat} {v : Int32} (t : TKF F T m) : TKF (fp F 36 k v) T m := by
  refine ⟨t.1, t.2.1, (fp_ne (Or.inl (by decide))).trans t.2.2.1, fun j hj => ?_, t.2.2.2.2⟩
  rw [fp_ne (Or.inl (by decide)), fp_ne (Or.inl (by decide))]
  exact t.2.2.2.1 j hj
end
-- 63.b79a.lean.txt
section
set_option maxRecDepth 100000 in
set_option maxHeartbeats 4000000 in
theorem c_readLine {F : FW} {K : Nat → TT} {m i c : Nat} (hG : GW F) (hT : TKF F K m) (h4 : F.1 3 4 = Int32.ofNat (i + 1)) (hi : i < m) (h3 : F.1 36 3 = Int32.ofNat c) (hc : c ≤ 40) (hcu : CURF F (K i)) (h0 : (K i).k ≠ 0) {r : Nat} {E : St} {nm : Nat → Int} (hE : TR F r E) (hN : NMC F r E nm) (hr : 40 ≤ r) : Pm Z_X4_readLine [.ref 36, .ref 3, .ref r] F (fun r' F' => LLP F F' K m c r' (ll K nm (t_g E) (t_m E) c i)) := by
  refine Pm.of fun N => ?_
  obtain ⟨Q, hQ⟩ : ∃ Q : Option Value → FW → Prop, Q = (fun r' F' => LLP F F' K m c r' (ll K nm (t_g E) (t_m E) c i)) := ⟨_, rfl⟩
  rw [← hQ]
  have b3 := hE.mb
  have b5 := hE.gb
  have hk := hcu.1
  have e2 : (2 : Int32).toInt = 2 := rfl
  have e72 : (72 : Int32).toInt = 72 := rfl
  have e74 : (74 : Int32).toInt = 74 := rfl
  have e76 : (76 : Int32).toInt = 76 := rfl
  refine (show Pv (ab_T (L_X4_readLine Z_X9_fail Z_X7_manNamed Z_X4_readDeed Z_X4_readDays Z_X4_readDeath)) N 0 [some (.ref 36), some (.ref 3), some (.ref r), none, none, none] [] F Q from ?_)
  refine Pv.aload rfl rfl ?_
  refine Pv.getI (z := F.1 3 5) rfl rfl (rfl) ?_
  refine Pv.istore (lo' := [some (.ref 36), some (.ref 3), some (.ref r), some (.int (F.1 3 5)), none, none]) rfl rfl ?_
  refine Pv.iload rfl rfl ?_
  refine Pv.lit rfl ?_
  refine Pv.icmp rfl (fun c1 => ?_) (fun c1 => ?_)
  · skip
    replace c1 := of_decide_eq_true c1
    refine Pv.lit rfl ?_
    refine Pv.istore (lo' := [some (.ref 36), some (.ref 3), some (.ref r), some (.int (F.1 3 5)), some (.int 0), none]) rfl rfl ?_
    refine Pv.iload rfl rfl ?_
    refine Pv.if0 rfl (fun c2 => ?_) (fun c2 => ?_)
    · skip
      replace c2 : decide ((0 : Int32) = 0) = false := by simpa using c2
      replace c2 := mt (i_eq (a := 0) (b := 0) (by omega) (by omega)).mpr (of_decide_eq_false c2)
      omega
    · skip
      replace c2 : decide ((0 : Int32) = 0) = true := by simpa using c2
      replace c2 := (i_eq (a := 0) (b := 0) (by omega) (by omega)).mp (of_decide_eq_true c2)
      refine Pv.iload rfl rfl ?_
      refine Pv.lit rfl ?_
      refine Pv.icmp rfl (fun c3 => ?_) (fun c3 => ?_)
      · skip
        replace c3 := of_decide_eq_true c3
        (have f8 := Int32.lt_iff_toInt_lt.mp c1; have f32 := congrArg Int32.toInt c3; omega)
      · skip
        replace c3 := of_decide_eq_false c3
        refine Pv.iload rfl rfl ?_
        refine Pv.lit rfl ?_
        refine Pv.icmp rfl (fun c4 => ?_) (fun c4 => ?_)
        · skip
          replace c4 := of_decide_eq_true c4
          refine Pv.iload rfl rfl ?_
          refine Pv.lit rfl ?_
          refine Pv.icmp rfl (fun c5 => ?_) (fun c5 => ?_)
          · skip
            replace c5 : decide (F.1 3 5 = 2) = false := by simpa using c5
            replace c5 := of_decide_eq_false c5
            (have f8 := Int32.lt_iff_toInt_lt.mp c1; have f32 := mt Int32.toInt_inj.mp c3; have f37 := congrArg Int32.toInt c4; have f48 := mt Int32.toInt_inj.mp c5; omega)
          · skip
            replace c5 : decide (F.1 3 5 = 2) = true := by simpa using c5
            replace c5 := of_decide_eq_true c5
            refine Pv.aload rfl rfl ?_
            refine Pv.aload rfl rfl ?_
            refine Pv.getL (z := F.2.2.1 3 8) rfl rfl (rfl) ?_
            have f8 := Int32.lt_iff_toInt_lt.mp c1
            have f32 := mt Int32.toInt_inj.mp c3
            have f37 := congrArg Int32.toInt c4
            have f48 := congrArg Int32.toInt c5
            have k2 : (K i).k = 2 := by omega
            refine Pv.callVI (as := [.ref r, .long (F.2.2.1 3 8)]) (rest := []) (z := oN (m_fst (mP nm (K i).v) (t_m E))) rfl rfl rfl (c_manNamed hG hE hN (hcu.2.2.2 k2) ((hT.v hi).2 k2)) ?_
            refine Pv.goto rfl ?_
            refine Pv.istore (lo' := [some (.ref 36), some (.ref 3), some (.ref r), some (.int (F.1 3 5)), some (.int 0), some (.int (oN (m_fst (mP nm (K i).v) (t_m E))))]) rfl rfl ?_
            refine Pv.iload rfl rfl ?_
            refine Pv.lit rfl ?_
            refine Pv.icmp rfl (fun c6 => ?_) (fun c6 => ?_)
            · skip
              replace c6 : decide (F.1 3 5 = 2) = false := by simpa using c6
              replace c6 := of_decide_eq_false c6
              (have f8 := Int32.lt_iff_toInt_lt.mp c1; have f32 := mt Int32.toInt_inj.mp c3; have f37 := congrArg Int32.toInt c4; have f48 := congrArg Int32.toInt c5; have f67 := mt Int32.toInt_inj.mp c6; omega)
            · skip
              replace c6 : decide (F.1 3 5 = 2) = true := by simpa using c6
              replace c6 := of_decide_eq_true c6
              refine Pv.iload rfl rfl ?_
              refine Pv.lit rfl ?_
              refine Pv.icmp rfl (fun c7 => ?_) (fun c7 => ?_)
              · skip
                replace c7 : decide (oN (m_fst (mP nm (K i).v) (t_m E)) = (-1)) = false := by simpa using c7
                replace c7 := of_decide_eq_false c7
                obtain ⟨w, hw, hz⟩ := mn_y c7
                rw [hz]
                refine Pv.aload rfl rfl ?_
                refine Pv.getI (z := Int32.ofNat c) rfl rfl (h3) ?_
                refine Pv.lit rfl ?_
                refine Pv.icmp rfl (fun c8 => ?_) (fun c8 => ?_)
                · skip
                  replace c8 := (i_lt (a := c) (b := 40) (by omega) (by omega)).mp (of_decide_eq_true c8)
                  have f8 := Int32.lt_iff_toInt_lt.mp c1
                  have f32 := mt Int32.toInt_inj.mp c3
                  have f37 := congrArg Int32.toInt c4
                  have f48 := congrArg Int32.toInt c5
                  have f67 := congrArg Int32.toInt c6
                  have ku := hT.up hi h0 (by omega)
                  refine Pv.iload rfl rfl ?_
                  refine Pv.if0 rfl (fun c9 => ?_) (fun c9 => ?_)
                  · skip
                    replace c9 := (i_eq (a := 0) (b := 0) (by omega) (by omega)).mp (of_decide_eq_true c9)
                    refine Pv.iload rfl rfl ?_
                    refine Pv.lit rfl ?_
                    refine Pv.icmp rfl (fun c10 => ?_) (fun c10 => ?_)
                    · skip
                      replace c10 : decide (F.1 3 5 = 76) = false := by simpa using c10
                      replace c10 := of_decide_eq_false c10
                      refine Pv.aload rfl rfl ?_
                      refine Pv.aload rfl rfl ?_
                      refine Pv.iload rfl rfl ?_
                      refine Pv.callV (as := [.ref 36, .ref 3, .int (Int32.ofNat w)]) (rest := []) rfl rfl rfl (c_readDeath hG hT h4 ku h3 (by omega) w) ?_
                      rintro _ Gz ⟨rfl, hl⟩
                      refine (show Pv _ _ 134 [some (.ref 36), some (.ref 3), some (.ref r), some (.int (F.1 3 5)), some (.int 0), some (.int (Int32.ofNat w))] [.int (ll_b (ll_death K w i))] Gz Q from ?_)
                      exact Pv.zret rfl (by rw [hQ]; exact LLP.to (by unfold ll; rw [if_neg (by omega), if_neg (by omega), if_pos (by omega), hw]; show (if 40 ≤ c then ll_n 4 i else ll_death K w i) = _; rw [if_neg (by omega)]) ⟨rfl, hl⟩)
                    · skip
                      replace c10 : decide (F.1 3 5 = 76) = true := by simpa using c10
                      replace c10 := of_decide_eq_true c10
                      (have f8 := Int32.lt_iff_toInt_lt.mp c1; have f32 := mt Int32.toInt_inj.mp c3; have f37 := congrArg Int32.toInt c4; have f48 := congrArg Int32.toInt c5; have f67 := congrArg Int32.toInt c6; have f116 := congrArg Int32.toInt c10; omega)
                  · skip
                    replace c9 := mt (i_eq (a := 0) (b := 0) (by omega) (by omega)).mpr (of_decide_eq_false c9)
                    omega
                · skip
                  replace c8 := mt (i_lt (a := c) (b := 40) (by omega) (by omega)).mpr (of_decide_eq_false c8)
                  refine Pv.aload rfl rfl ?_
                  refine Pv.lit rfl ?_
                  refine Pv.callVI (as := [.ref 3, .int 4]) (rest := []) (z := 0) rfl rfl rfl (c_fail (c := 4)) ?_
                  have f8 := Int32.lt_iff_toInt_lt.mp c1
                  have f32 := mt Int32.toInt_inj.mp c3
                  have f37 := congrArg Int32.toInt c4
                  have f48 := congrArg Int32.toInt c5
                  have f67 := congrArg Int32.toInt c6
                  exact Pv.zret rfl (by rw [hQ]; exact LLP.mk_n (q := 4) (j := i) (by unfold ll; rw [if_neg (by omega), if_neg (by omega), if_pos (by omega), hw]; show (if 40 ≤ c then ll_n 4 i else ll_death K w i) = _; rw [if_pos (by omega)]) (LCX.of (RCX.rf.fp (Or.inr (Or.inr (Or.inr (Or.inr rfl)))))) fp_eq hcu.p9)
              · skip
                replace c7 : decide (oN (m_fst (mP nm (K i).v) (t_m E)) = (-1)) = true := by simpa using c7
                replace c7 := of_decide_eq_true c7
                refine Pv.aload rfl rfl ?_
                refine Pv.lit rfl ?_
                refine Pv.callVI (as := [.ref 3, .int 3]) (rest := []) (z := 0) rfl rfl rfl (c_fail (c := 3)) ?_
                have f8 := Int32.lt_iff_toInt_lt.mp c1
                have f32 := mt Int32.toInt_inj.mp c3
                have f37 := congrArg Int32.toInt c4
                have f48 := congrArg Int32.toInt c5
                have f67 := congrArg Int32.toInt c6
                exact Pv.zret rfl (by rw [hQ]; exact LLP.mk_n (q := 3) (j := i) (by unfold ll; rw [if_neg (by omega), if_neg (by omega), if_pos (by omega), (oN_1 (by omega)).mp c7]; first | done | rfl) (LCX.of (RCX.rf.fp (Or.inr (Or.inr (Or.inr (Or.inr rfl)))))) fp_eq hcu.p9)
        · skip
          replace c4 := of_decide_eq_false c4
          refine Pv.aload rfl rfl ?_
          refine Pv.lit rfl ?_
          refine Pv.callVI (as := [.ref 3, .int 1]) (rest := []) (z := 0) rfl rfl rfl (c_fail (c := 1)) ?_
          have f8 := Int32.lt_iff_toInt_lt.mp c1
          have f32 := mt Int32.toInt_inj.mp c3
          have f37 := mt Int32.toInt_inj.mp c4
          exact Pv.zret rfl (by rw [hQ]; exact LLP.mk_n (q := 1) (j := i) (by unfold ll; rw [if_neg (by omega), if_neg (by omega), if_neg (by omega)]) (LCX.of (RCX.rf.fp (Or.inr (Or.inr (Or.inr (Or.inr rfl)))))) fp_eq hcu.p9)
  · skip
    replace c1 := of_decide_eq_false c1
    refine Pv.iload rfl rfl ?_
    refine Pv.lit rfl ?_
    refine Pv.icmp rfl (fun c11 => ?_) (fun c11 => ?_)
    · skip
      replace c11 := of_decide_eq_true c11
      refine Pv.lit rfl ?_
      refine Pv.istore (lo' := [some (.ref 36), some (.ref 3), some (.ref r), some (.int (F.1 3 5)), some (.int 0), none]) rfl rfl ?_
      refine Pv.iload rfl rfl ?_
      refine Pv.if0 rfl (fun c12 => ?_) (fun c12 => ?_)
      · skip
        replace c12 : decide ((0 : Int32) = 0) = false := by simpa using c12
        replace c12 := mt (i_eq (a := 0) (b := 0) (by omega) (by omega)).mpr (of_decide_eq_false c12)
        omega
      · skip
        replace c12 : decide ((0 : Int32) = 0) = true := by simpa using c12
        replace c12 := (i_eq (a := 0) (b := 0) (by omega) (by omega)).mp (of_decide_eq_true c12)
        refine Pv.iload rfl rfl ?_
        refine Pv.lit rfl ?_
        refine Pv.icmp rfl (fun c13 => ?_) (fun c13 => ?_)
        · skip
          replace c13 := of_decide_eq_true c13
          refine Pv.iload rfl rfl ?_
          refine Pv.lit rfl ?_
          refine Pv.icmp rfl (fun c14 => ?_) (fun c14 => ?_)
          · skip
            replace c14 : decide (F.1 3 5 = 2) = false := by simpa using c14
            replace c14 := of_decide_eq_false c14
            refine Pv.lit rfl ?_
            refine Pv.istore (lo' := [some (.ref 36), some (.ref 3), some (.ref r), some (.int (F.1 3 5)), some (.int 0), some (.int (-1))]) rfl rfl ?_
            refine Pv.iload rfl rfl ?_
            refine Pv.lit rfl ?_
            refine Pv.icmp rfl (fun c15 => ?_) (fun c15 => ?_)
            · skip
              replace c15 : decide (F.1 3 5 = 2) = false := by simpa using c15
              replace c15 := of_decide_eq_false c15
              refine Pv.aload rfl rfl ?_
              refine Pv.getI (z := Int32.ofNat c) rfl rfl (h3) ?_
              refine Pv.lit rfl ?_
              refine Pv.icmp rfl (fun c16 => ?_) (fun c16 => ?_)
              · skip
                replace c16 := (i_lt (a := c) (b := 40) (by omega) (by omega)).mp (of_decide_eq_true c16)
                have f8 := mt Int32.lt_iff_toInt_lt.mpr c1
                have f14 := Int32.lt_iff_toInt_lt.mp c11
                have f32 := congrArg Int32.toInt c13
                have f48 := mt Int32.toInt_inj.mp c14
                have f67 := mt Int32.toInt_inj.mp c15
                have ku := hT.up hi h0 (by omega)
                refine Pv.iload rfl rfl ?_
                refine Pv.if0 rfl (fun c17 => ?_) (fun c17 => ?_)
                · skip
                  replace c17 := (i_eq (a := 0) (b := 0) (by omega) (by omega)).mp (of_decide_eq_true c17)
                  refine Pv.iload rfl rfl ?_
                  refine Pv.lit rfl ?_
                  refine Pv.icmp rfl (fun c18 => ?_) (fun c18 => ?_)
                  · skip
                    replace c18 : decide (F.1 3 5 = 76) = false := by simpa using c18
                    replace c18 := of_decide_eq_false c18
                    (have f8 := mt Int32.lt_iff_toInt_lt.mpr c1; have f14 := Int32.lt_iff_toInt_lt.mp c11; have f32 := congrArg Int32.toInt c13; have f48 := mt Int32.toInt_inj.mp c14; have f67 := mt Int32.toInt_inj.mp c15; have f116 := mt Int32.toInt_inj.mp c18; omega)
                  · skip
                    replace c18 : decide (F.1 3 5 = 76) = true := by simpa using c18
                    replace c18 := of_decide_eq_true c18
                    refine Pv.aload rfl rfl ?_
                    refine Pv.aload rfl rfl ?_
                    refine Pv.callV (as := [.ref 36, .ref 3]) (rest := []) rfl rfl rfl (c_readDays hG hT h4 ku h3 (by omega)) ?_
                    rintro _ Gz ⟨rfl, hl⟩
                    refine (show Pv _ _ 124 [some (.ref 36), some (.ref 3), some (.ref r), some (.int (F.1 3 5)), some (.int 0), some (.int (-1))] [.int (ll_b (ll_days K i))] Gz Q from ?_)
                    refine Pv.goto rfl ?_
                    exact Pv.zret rfl (by rw [hQ]; exact LLP.to (by unfold ll; rw [if_neg (by omega), if_pos (by omega), if_neg (by omega)]) ⟨rfl, hl⟩)
                · skip
                  replace c17 := mt (i_eq (a := 0) (b := 0) (by omega) (by omega)).mpr (of_decide_eq_false c17)
                  omega
              · skip
                replace c16 := mt (i_lt (a := c) (b := 40) (by omega) (by omega)).mpr (of_decide_eq_false c16)
                refine Pv.aload rfl rfl ?_
                refine Pv.lit rfl ?_
                refine Pv.callVI (as := [.ref 3, .int 4]) (rest := []) (z := 0) rfl rfl rfl (c_fail (c := 4)) ?_
                have f8 := mt Int32.lt_iff_toInt_lt.mpr c1
                have f14 := Int32.lt_iff_toInt_lt.mp c11
                have f32 := congrArg Int32.toInt c13
                have f48 := mt Int32.toInt_inj.mp c14
                have f67 := mt Int32.toInt_inj.mp c15
                exact Pv.zret rfl (by rw [hQ]; exact LLP.mk_n (q := 4) (j := i) (by unfold ll; rw [if_neg (by omega), if_pos (by omega), if_pos (by omega)]) (LCX.of (RCX.rf.fp (Or.inr (Or.inr (Or.inr (Or.inr rfl)))))) fp_eq hcu.p9)
            · skip
              replace c15 : decide (F.1 3 5 = 2) = true := by simpa using c15
              replace c15 := of_decide_eq_true c15
              (have f8 := mt Int32.lt_iff_toInt_lt.mpr c1; have f14 := Int32.lt_iff_toInt_lt.mp c11; have f32 := congrArg Int32.toInt c13; have f48 := mt Int32.toInt_inj.mp c14; have f67 := congrArg Int32.toInt c15; omega)
          · skip
            replace c14 : decide (F.1 3 5 = 2) = true := by simpa using c14
            replace c14 := of_decide_eq_true c14
            (have f8 := mt Int32.lt_iff_toInt_lt.mpr c1; have f14 := Int32.lt_iff_toInt_lt.mp c11; have f32 := congrArg Int32.toInt c13; have f48 := congrArg Int32.toInt c14; omega)
        · skip
          replace c13 := of_decide_eq_false c13
          refine Pv.iload rfl rfl ?_
          refine Pv.lit rfl ?_
          refine Pv.icmp rfl (fun c19 => ?_) (fun c19 => ?_)
          · skip
            replace c19 := of_decide_eq_true c19
            (have f8 := mt Int32.lt_iff_toInt_lt.mpr c1; have f14 := Int32.lt_iff_toInt_lt.mp c11; have f32 := mt Int32.toInt_inj.mp c13; have f37 := congrArg Int32.toInt c19; omega)
          · skip
            replace c19 := of_decide_eq_false c19
            refine Pv.aload rfl rfl ?_
            refine Pv.lit rfl ?_
            refine Pv.callVI (as := [.ref 3, .int 1]) (rest := []) (z := 0) rfl rfl rfl (c_fail (c := 1)) ?_
            have f8 := mt Int32.lt_iff_toInt_lt.mpr c1
            have f14 := Int32.lt_iff_toInt_lt.mp c11
            have f32 := mt Int32.toInt_inj.mp c13
            have f37 := mt Int32.toInt_inj.mp c19
            exact Pv.zret rfl (by rw [hQ]; exact LLP.mk_n (q := 1) (j := i) (by unfold ll; rw [if_neg (by omega), if_neg (by omega), if_neg (by omega)]) (LCX.of (RCX.rf.fp (Or.inr (Or.inr (Or.inr (Or.inr rfl)))))) fp_eq hcu.p9)
    · skip
      replace c11 := of_decide_eq_false c11
      refine Pv.lit rfl ?_
      refine Pv.goto rfl ?_
      refine Pv.istore (lo' := [some (.ref 36), some (.ref 3), some (.ref r), some (.int (F.1 3 5)), some (.int 1), none]) rfl rfl ?_
      refine Pv.iload rfl rfl ?_
      refine Pv.if0 rfl (fun c20 => ?_) (fun c20 => ?_)
      · skip
        replace c20 : decide ((1 : Int32) = 0) = false := by simpa using c20
        replace c20 := mt (i_eq (a := 1) (b := 0) (by omega) (by omega)).mpr (of_decide_eq_false c20)
        refine Pv.iload rfl rfl ?_
        refine Pv.lit rfl ?_
        refine Pv.icmp rfl (fun c21 => ?_) (fun c21 => ?_)
        · skip
          replace c21 : decide (F.1 3 5 = 2) = false := by simpa using c21
          replace c21 := of_decide_eq_false c21
          refine Pv.lit rfl ?_
          refine Pv.istore (lo' := [some (.ref 36), some (.ref 3), some (.ref r), some (.int (F.1 3 5)), some (.int 1), some (.int (-1))]) rfl rfl ?_
          refine Pv.iload rfl rfl ?_
          refine Pv.lit rfl ?_
          refine Pv.icmp rfl (fun c22 => ?_) (fun c22 => ?_)
          · skip
            replace c22 : decide (F.1 3 5 = 2) = false := by simpa using c22
            replace c22 := of_decide_eq_false c22
            refine Pv.aload rfl rfl ?_
            refine Pv.getI (z := Int32.ofNat c) rfl rfl (h3) ?_
            refine Pv.lit rfl ?_
            refine Pv.icmp rfl (fun c23 => ?_) (fun c23 => ?_)
            · skip
              replace c23 := (i_lt (a := c) (b := 40) (by omega) (by omega)).mp (of_decide_eq_true c23)
              have f8 := mt Int32.lt_iff_toInt_lt.mpr c1
              have f14 := mt Int32.lt_iff_toInt_lt.mpr c11
              have f48 := mt Int32.toInt_inj.mp c21
              have f67 := mt Int32.toInt_inj.mp c22
              have ku := hT.up hi h0 (by omega)
              refine Pv.iload rfl rfl ?_
              refine Pv.if0 rfl (fun c24 => ?_) (fun c24 => ?_)
              · skip
                replace c24 := (i_eq (a := 1) (b := 0) (by omega) (by omega)).mp (of_decide_eq_true c24)
                omega
              · skip
                replace c24 := mt (i_eq (a := 1) (b := 0) (by omega) (by omega)).mpr (of_decide_eq_false c24)
                refine Pv.aload rfl rfl ?_
                refine Pv.aload rfl rfl ?_
                refine Pv.aload rfl rfl ?_
                refine Pv.iload rfl rfl ?_
                refine Pv.lit rfl ?_
                refine Pv.bin (z := Int32.ofNat (((K i).k - 72).toNat)) rfl (kd72 hk (by omega) (by omega)) ?_
                refine Pv.callV (as := [.ref 36, .ref 3, .ref r, .int (Int32.ofNat (((K i).k - 72).toNat))]) (rest := []) rfl rfl rfl (c_readDeed hG hT h4 ku h3 (by omega) hE hN hr ((K i).k - 72).toNat) ?_
                rintro _ Gz ⟨rfl, hl⟩
                refine (show Pv _ _ 112 [some (.ref 36), some (.ref 3), some (.ref r), some (.int (F.1 3 5)), some (.int 1), some (.int (-1))] [.int (ll_b (ll_deed K nm (t_g E) ((K i).k - 72).toNat i))] Gz Q from ?_)
                exact Pv.zret rfl (by rw [hQ]; exact LLP.to (by unfold ll; rw [if_pos ⟨by omega, by omega⟩, if_neg (by omega)]) ⟨rfl, hl⟩)
            · skip
              replace c23 := mt (i_lt (a := c) (b := 40) (by omega) (by omega)).mpr (of_decide_eq_false c23)
              refine Pv.aload rfl rfl ?_
              refine Pv.lit rfl ?_
              refine Pv.callVI (as := [.ref 3, .int 4]) (rest := []) (z := 0) rfl rfl rfl (c_fail (c := 4)) ?_
              have f8 := mt Int32.lt_iff_toInt_lt.mpr c1
              have f14 := mt Int32.lt_iff_toInt_lt.mpr c11
              have f48 := mt Int32.toInt_inj.mp c21
              have f67 := mt Int32.toInt_inj.mp c22
              exact Pv.zret rfl (by rw [hQ]; exact LLP.mk_n (q := 4) (j := i) (by unfold ll; rw [if_pos ⟨by omega, by omega⟩, if_pos (by omega)]) (LCX.of (RCX.rf.fp (Or.inr (Or.inr (Or.inr (Or.inr rfl)))))) fp_eq hcu.p9)
          · skip
            replace c22 : decide (F.1 3 5 = 2) = true := by simpa using c22
            replace c22 := of_decide_eq_true c22
            (have f8 := mt Int32.lt_iff_toInt_lt.mpr c1; have f14 := mt Int32.lt_iff_toInt_lt.mpr c11; have f48 := mt Int32.toInt_inj.mp c21; have f67 := congrArg Int32.toInt c22; omega)
        · skip
          replace c21 : decide (F.1 3 5 = 2) = true := by simpa using c21
          replace c21 := of_decide_eq_true c21
          (have f8 := mt Int32.lt_iff_toInt_lt.mpr c1; have f14 := mt Int32.lt_iff_toInt_lt.mpr c11; have f48 := congrArg Int32.toInt c21; omega)
      · skip
        replace c20 : decide ((1 : Int32) = 0) = true := by simpa using c20
        replace c20 := (i_eq (a := 1) (b := 0) (by omega) (by omega)).mp (of_decide_eq_true c20)
        omega
end
-- 63.b79b.lean.txt
section
set_option maxRecDepth 100000 in
set_option maxHeartbeats 4000000 in
theorem c_readText {F : FW} {K : Nat → TT} {m : Nat} (hG : GW F) (hT : TKF F K m) (h4 : F.1 3 4 = Int32.ofNat 0) (h9 : F.1 3 9 = 0) {r : Nat} {E : St} {nm : Nat → Int} (hE : TR F r E) (hN : NMC F r E nm) (hr : 40 ≤ r) : Pm Z_X4_readText [.ref 36, .ref 3, .ref r] F (fun r' F' => r' = none ∧ TXX F F' ∧ LGR F' K nm (t_g E) (t_m E)) := by
  refine Pm.of fun N => ?_
  obtain ⟨Q, hQ⟩ : ∃ Q : Option Value → FW → Prop, Q = (fun r' F' => r' = none ∧ TXX F F' ∧ LGR F' K nm (t_g E) (t_m E)) := ⟨_, rfl⟩
  rw [← hQ]
  refine (show Pv (ab_T (L_X4_readText Z_X9_step Z_X4_readLine Z_X9_takeSign)) N 0 [some (.ref 36), some (.ref 3), some (.ref r), none, none] [] F Q from ?_)
  refine Pv.aload rfl rfl ?_
  refine Pv.lit rfl ?_
  refine Pv.putI rfl rfl ?_
  refine Pv.lit rfl ?_
  refine Pv.istore (lo' := [some (.ref 36), some (.ref 3), some (.ref r), some (.int 1), none]) rfl rfl ?_
  refine Pv.lit rfl ?_
  refine Pv.istore (lo' := [some (.ref 36), some (.ref 3), some (.ref r), some (.int 1), some (.int 0)]) rfl rfl ?_
  refine Pv.lp (ι := Int32 × Nat × FW × LN × Nat) (lof := fun ⟨b, n, G, L, i⟩ => [some (.ref 36), some (.ref 3), some (.ref r), some (.int b), some (.int (Int32.ofNat n))]) (Ff := fun ⟨b, n, G, L, i⟩ => G) (P := fun ⟨b, n, G, L, i⟩ => (n ≤ 41) ∧ (TXX F G) ∧ (GW G) ∧ (TKF G K m) ∧ ((b = 1 ∧ n ≤ 40 ∧ lgs K nm (t_g E) (t_m E) n = some (L, i) ∧ G.1 36 3 = Int32.ofNat n ∧ LNS G L n ∧ G.1 3 4 = Int32.ofNat i ∧ i < m ∧ G.1 3 9 = 0) ∨ (b = 0 ∧ LGR G K nm (t_g E) (t_m E)))) ?_ (1, 0, (fp F 36 3 0), (fun _ => (0, 0, 0)), 0) (⟨by omega, ⟨((FX.rf (P := fun q => q = 3 ∨ (36 ≤ q ∧ q ≤ 39)))).fp (Or.inr (by omega)), fun k hk => fp_ne (Or.inr hk)⟩, (hG.fx (P := fun _ => True) (((FX.rf (P := fun _ => True))).fp trivial)), RCX_tk36 hT, Or.inl ⟨rfl, by omega, rfl, fp_eq, LNS.z, (fp_ne (Or.inl (by decide))).trans h4, by have := hT.1; omega, (fp_ne (Or.inl (by decide))).trans h9⟩⟩)
  rintro N1 hN2 ⟨b, n, G, L, i⟩ hi3 ih4
  refine (show Pv _ _ 10 [some (.ref 36), some (.ref 3), some (.ref r), some (.int b), some (.int (Int32.ofNat n))] [] G Q from ?_)
  obtain ⟨hn, hx, hGG, htk, hgo⟩ := hi3
  refine Pv.iloadS rfl rfl ?_
  refine Pv.lit rfl ?_
  refine Pv.icmp rfl (fun c5 => ?_) (fun c5 => ?_)
  · skip
    replace c5 := (i_lt (a := 40) (b := n) (by omega) (by omega)).mp (of_decide_eq_true c5)
    exact Pv.vret rfl (by rw [hQ]; exact ⟨rfl, hx, (hgo.resolve_left (fun q => by have := q.2.1; omega)).2⟩)
  · skip
    replace c5 := mt (i_lt (a := 40) (b := n) (by omega) (by omega)).mpr (of_decide_eq_false c5)
    refine Pv.iload rfl rfl ?_
    refine Pv.if0 rfl (fun c6 => ?_) (fun c6 => ?_)
    · skip
      replace c6 := of_decide_eq_true c6
      exact Pv.vret rfl (by rw [hQ]; exact ⟨rfl, hx, (hgo.resolve_left (fun q => absurd (q.1.symm.trans c6) (by decide))).2⟩)
    · skip
      replace c6 := of_decide_eq_false c6
      obtain ⟨hb, hn40, hls, hc, hL, h4g, him, h9g⟩ := hgo.resolve_right (fun q => c6 q.1)
      have hE1 := hE.fx (P := fun q => q = 3 ∨ (36 ≤ q ∧ q ≤ 39)) hx.1 (fun q h1 h2 (c : q = 3 ∨ (36 ≤ q ∧ q ≤ 39)) => by omega)
      have hN1 := hN.fx (P := fun q => q = 3 ∨ (36 ≤ q ∧ q ≤ 39)) hx.1 (show ¬ (r + 1 = 3 ∨ (36 ≤ r + 1 ∧ r + 1 ≤ 39)) by omega) (show ¬ (r + 2 = 3 ∨ (36 ≤ r + 2 ∧ r + 2 ≤ 39)) by omega)
      refine Pv.aload rfl rfl ?_
      refine Pv.callV (as := [.ref 3]) (rest := []) rfl rfl rfl (c_step hGG htk h4g him) ?_
      rintro _ G1 ⟨rfl, hd1⟩
      have tk1 := RCX.TK hd1.1 htk
      have gw1 := RCX.G hd1.1 hGG
      have hc1 : G1.1 36 3 = Int32.ofNat n := (hd1.1.1.1 36 3 (by decide)).trans hc
      refine (show Pv _ _ 25 [some (.ref 36), some (.ref 3), some (.ref r), some (.int b), some (.int (Int32.ofNat n))] [] G1 Q from ?_)
      refine Pv.aload rfl rfl ?_
      refine Pv.getI (z := G1.1 3 5) rfl rfl (rfl) ?_
      refine Pv.if0 rfl (fun c7 => ?_) (fun c7 => ?_)
      · skip
        replace c7 := of_decide_eq_true c7
        refine Pv.lit rfl ?_
        refine Pv.istore (lo' := [some (.ref 36), some (.ref 3), some (.ref r), some (.int 0), some (.int (Int32.ofNat n))]) rfl rfl ?_
        refine Pv.iinc (y := Int32.ofNat (n + 1)) (lo' := [some (.ref 36), some (.ref 3), some (.ref r), some (.int 0), some (.int (Int32.ofNat (n + 1)))]) rfl rfl (i_add n 1) rfl ?_
        refine Pv.goto rfl ?_
        exact ih4 (0, n + 1, G1, L, i) (⟨by omega, (hx.tr (LCX.of (c := 0) hd1.1).tx), gw1, tk1, Or.inr ⟨rfl, LGR.mk hls (lge_0 ((k_eq (x := 0) hd1.2.2.1.1).mp c7)) (fun _ => ⟨hc1, hL.k (LCX.of hd1.1)⟩) hn40 ((hd1.ok9 rfl).trans h9g) hd1.2.2.1⟩⟩)
      · skip
        replace c7 := of_decide_eq_false c7
        have h0 : (K i).k ≠ 0 := fun e => c7 ((k_eq (x := 0) hd1.2.2.1.1).mpr e)
        have hE2 := hE1.fx (P := fun q => q = 3) hd1.1.1 (fun q h1 h2 (c : q = 3) => by omega)
        have hN2 := hN1.fx (P := fun q => q = 3) hd1.1.1 (show ¬ r + 1 = 3 by omega) (show ¬ r + 2 = 3 by omega)
        refine Pv.aload rfl rfl ?_
        refine Pv.aload rfl rfl ?_
        refine Pv.aload rfl rfl ?_
        refine Pv.callV (as := [.ref 36, .ref 3, .ref r]) (rest := []) rfl rfl rfl (c_readLine gw1 tk1 hd1.2.1 him hc1 hn40 hd1.2.2.1 h0 hE2 hN2 hr) ?_
        rintro _ G2 ⟨rfl, hx2, hm⟩
        have tk2 := LCX.TK hx2 tk1
        have gw2 := LCX.G hx2 gw1
        refine (show Pv _ _ 38 [some (.ref 36), some (.ref 3), some (.ref r), some (.int b), some (.int (Int32.ofNat n))] [.int (ll_b (ll K nm (t_g E) (t_m E) n i))] G2 Q from ?_)
        refine Pv.if0 rfl (fun c8 => ?_) (fun c8 => ?_)
        · skip
          replace c8 := of_decide_eq_true c8
          obtain ⟨q, j, el⟩ := ll_b0 c8
          have hm2 : G2.1 3 9 = q ∧ CURF G2 (K j) := by rw [el] at hm; exact hm
          refine Pv.lit rfl ?_
          refine Pv.istore (lo' := [some (.ref 36), some (.ref 3), some (.ref r), some (.int 0), some (.int (Int32.ofNat n))]) rfl rfl ?_
          refine Pv.iinc (y := Int32.ofNat (n + 1)) (lo' := [some (.ref 36), some (.ref 3), some (.ref r), some (.int 0), some (.int (Int32.ofNat (n + 1)))]) rfl rfl (i_add n 1) rfl ?_
          refine Pv.goto rfl ?_
          exact ih4 (0, n + 1, G2, L, i) (⟨by omega, ((hx.tr (LCX.of (c := 0) hd1.1).tx).tr hx2.tx), gw2, tk2, Or.inr ⟨rfl, LGR.mk hls (lge_n h0 el) (fun e => absurd e (ll_nz el)) hn40 hm2.1 hm2.2⟩⟩)
        · skip
          replace c8 := of_decide_eq_false c8
          obtain ⟨d, w, x, j, el⟩ := ll_b1 c8
          have hm2 : G2.1 3 4 = Int32.ofNat j ∧ G2.1 3 9 = G1.1 3 9 ∧ LIN G2 n d w x ∧ j < m := by rw [el] at hm; exact hm
          have n40 := ll_40 el
          refine Pv.aload rfl rfl ?_
          refine Pv.lit rfl ?_
          refine Pv.callV (as := [.ref 3, .int 59]) (rest := []) rfl rfl rfl (c_takeSign gw2 tk2 hm2.1 hm2.2.2.2 59) ?_
          rintro _ G3 ⟨rfl, hd3x⟩
          have hd3 : RDC G2 G3 (K j) j (tnS (K j) 59) := hd3x
          have tk3 := RCX.TK hd3.1 tk2
          have gw3 := RCX.G hd3.1 gw2
          refine (show Pv _ _ 47 [some (.ref 36), some (.ref 3), some (.ref r), some (.int b), some (.int (Int32.ofNat n))] [.int (b2i (decide (tnS (K j) 59 = 0)))] G3 Q from ?_)
          refine Pv.if0 rfl (fun c9 => ?_) (fun c9 => ?_)
          · skip
            replace c9 := of_decide_eq_true c9
            replace c9 := b2z.mp c9
            refine Pv.lit rfl ?_
            refine Pv.istore (lo' := [some (.ref 36), some (.ref 3), some (.ref r), some (.int 0), some (.int (Int32.ofNat n))]) rfl rfl ?_
            refine Pv.iinc (y := Int32.ofNat (n + 1)) (lo' := [some (.ref 36), some (.ref 3), some (.ref r), some (.int 0), some (.int (Int32.ofNat (n + 1)))]) rfl rfl (i_add n 1) rfl ?_
            refine Pv.goto rfl ?_
            exact ih4 (0, n + 1, G3, L, i) (⟨by omega, (((hx.tr (LCX.of (c := 0) hd1.1).tx).tr hx2.tx).tr (LCX.of (c := 0) hd3.1).tx), gw3, tk3, Or.inr ⟨rfl, LGR.mk hls (lge_s h0 el (of_decide_eq_false c9)) (fun e => absurd e (by decide)) hn40 ((hd3.bad9 (of_decide_eq_false c9)).trans (tnS_1 (of_decide_eq_false c9))) hd3.2.2.1⟩⟩)
          · skip
            replace c9 := of_decide_eq_false c9
            replace c9 := b2n.mp c9
            refine Pv.lit rfl ?_
            refine Pv.goto rfl ?_
            refine Pv.istore (lo' := [some (.ref 36), some (.ref 3), some (.ref r), some (.int 1), some (.int (Int32.ofNat n))]) rfl rfl ?_
            refine Pv.iinc (y := Int32.ofNat (n + 1)) (lo' := [some (.ref 36), some (.ref 3), some (.ref r), some (.int 1), some (.int (Int32.ofNat (n + 1)))]) rfl rfl (i_add n 1) rfl ?_
            refine Pv.goto rfl ?_
            exact ih4 (1, n + 1, G3, upn L n (d, w, x), (j + 1)) (⟨by omega, (((hx.tr (LCX.of (c := 0) hd1.1).tx).tr hx2.tx).tr (LCX.of (c := 0) hd3.1).tx), gw3, tk3, Or.inl ⟨rfl, by omega, lgs_y hls h0 el (of_decide_eq_true c9), (hd3.1.1.1 36 3 (by decide)).trans hm2.2.2.1.1, ((((hL.k (LCX.of hd1.1)).k hx2).s hm2.2.2.1).k (LCX.of hd3.1)), hd3.2.1, tk3.up hm2.2.2.2 (by rw [tnS_k (of_decide_eq_true c9)]; decide) (by rw [tnS_k (of_decide_eq_true c9)]; decide), (hd3.ok9 (of_decide_eq_true c9)).trans (hm2.2.1.trans ((hd1.ok9 rfl).trans h9g))⟩⟩)
end
-- 63.b80.rr.lean.txt
section
/-! ===== the reference asks what it read ===== -/
theorem rw_k {F : FW} {X : TT} (hN : NTF F X) (c : F.1 69 11 = 1) : rkk X.k = 1 := by
  have e : (1 : Int32).toInt = 1 := rfl
  rw [← hN.2.2.1, c, e]
theorem rw_n {F : FW} {X : TT} {j : Nat} (hN : NTF F X) (c : ¬ F.1 69 11 = 1) : ¬ X.k = 64 + (j : Int) := fun e => by
  refine c (Int32.toInt_inj.mp ?_)
  rw [hN.2.2.1, rkk_w (by omega)]
  rfl
theorem rw_eq {F : FW} {X : TT} {j : Nat} {w : Int64} (hN : NTF F X) (hW : WOK X) (hj : j < 25) (hw : w.toInt = rwd.getD j 0) (c : F.1 69 11 = 1) : F.2.2.1 69 17 = w ↔ X.k = 64 + (j : Int) := by
  have r := rw_k hN c
  have v := hN.2.2.2.2.2 r
  rw [← (hW (rkk_1 r)).2 j hj, ← hw, ← v]
  exact Int64.toInt_inj.symm
theorem rs_n {F : FW} {X : TT} {x : Int32} (hN : NTF F X) (hx : rkk x.toInt = 3) (c : ¬ F.1 69 11 = 3) : ¬ X.k = x.toInt := fun e => by
  refine c (Int32.toInt_inj.mp ?_)
  rw [hN.2.2.1, e, hx]
  rfl
theorem rs_eq {F : FW} {X : TT} {x : Int32} (hN : NTF F X) (c : F.1 69 11 = 3) : F.1 69 14 = x ↔ X.k = x.toInt := by
  have e : (3 : Int32).toInt = 3 := rfl
  have r : rkk X.k = 3 := by rw [← hN.2.2.1, c, e]
  rw [← hN.2.2.2.2.1 r]
  exact Int32.toInt_inj.symm
/-- the words that no name may be -/
def RWF (F : FW) : Prop := ∀ j, j < 25 → (F.2.2.1 75 j).toInt = rwd.getD j 0
/-- so far no such word -/
def nwd (X : TT) : Nat → Bool
  | 0 => decide (rkk X.k = 1)
  | j + 1 => nwd X j && !decide (X.k = 64 + (j : Int))
theorem nwd_1 {X : TT} : ∀ j, nwd X j = true → rkk X.k = 1
  | 0, h => of_decide_eq_true h
  | j + 1, h => by
    have h' : (nwd X j && !decide (X.k = 64 + (j : Int))) = true := h
    rw [Bool.and_eq_true] at h'
    exact nwd_1 j h'.1
theorem nwd_l {X : TT} : ∀ j, nwd X j = true → ∀ l, l < j → ¬ X.k = 64 + (l : Int)
  | 0, _, l, hl => absurd hl (Nat.not_lt_zero l)
  | j + 1, h, l, hl => by
    have h' : (nwd X j && !decide (X.k = 64 + (j : Int))) = true := h
    rw [Bool.and_eq_true, Bool.not_eq_true', decide_eq_false_iff_not] at h'
    by_cases e : l = j
    · rw [e]
      exact h'.2
    · exact nwd_l j h'.1 l (by omega)
theorem nwd_2 {X : TT} (h : X.k = 2) : ∀ j, nwd X j = true
  | 0 => decide_eq_true (by rw [h]; rfl)
  | j + 1 => by
    show (nwd X j && !decide (X.k = 64 + (j : Int))) = true
    rw [nwd_2 h j, decide_eq_false (by omega)]
    rfl
theorem nwd_e {X : TT} (h8 : X.k ≤ 88) : nwd X 25 = decide (X.k = 2) := by
  by_cases c : X.k = 2
  · rw [nwd_2 c, decide_eq_true c]
  · rw [decide_eq_false c]
    cases e : nwd X 25 with
    | false => rfl
    | true =>
      rcases rkk_1 (nwd_1 25 e) with k | k
      · exact absurd k c
      · exact absurd (show X.k = 64 + ((X.k - 64).toNat : Int) by omega) (nwd_l 25 e (X.k - 64).toNat (by omega))
theorem rn_eq {F : FW} {X : TT} {j : Nat} (hN : NTF F X) (hW : WOK X) (hR : RWF F) (hj : j < 25) (h : nwd X j = true) : F.2.2.1 69 17 = F.2.2.1 75 j ↔ X.k = 64 + (j : Int) := by
  have r := nwd_1 j h
  have v := hN.2.2.2.2.2 r
  rw [← (hW (rkk_1 r)).2 j hj, ← hR j hj, ← v]
  exact Int64.toInt_inj.symm
def fP (nm : Nat → Int) (o : Nat) (v : Int) (g : Nat) : Bool := decide (nm (o + g) = v)
theorem fP_0 {nm : Nat → Int} {v : Int} : fP nm 0 v = gP nm v := funext fun g => by
  unfold fP gP
  rw [Nat.zero_add]
theorem fP_6 {nm : Nat → Int} {v : Int} : fP nm 6 v = mP nm v := rfl
end
-- 63.b80a.lean.txt
section
set_option maxRecDepth 100000 in
set_option maxHeartbeats 4000000 in
theorem r_isWord {F : FW} {X : TT} {w : Int64} {j : Nat} (hN : NTF F X) (hW : WOK X) (hj : j < 25) (hw : w.toInt = rwd.getD j 0) : Pm Z_X11_isWord [.ref 69, .long w] F (fun r F' => r = some (.int (b2i (decide (X.k = 64 + (j : Int))))) ∧ F' = F) := by
  refine Pm.of fun N => ?_
  obtain ⟨Q, hQ⟩ : ∃ Q : Option Value → FW → Prop, Q = (fun r F' => r = some (.int (b2i (decide (X.k = 64 + (j : Int))))) ∧ F' = F) := ⟨_, rfl⟩
  rw [← hQ]
  refine (show Pv (ab_T L_X11_isWord) N 0 [some (.ref 69), some (.long w), none] [] F Q from ?_)
  refine Pv.aload rfl rfl ?_
  refine Pv.getI (z := F.1 69 11) rfl rfl (rfl) ?_
  refine Pv.lit rfl ?_
  refine Pv.icmp rfl (fun c1 => ?_) (fun c1 => ?_)
  · skip
    replace c1 : decide (F.1 69 11 = 1) = false := by simpa using c1
    replace c1 := of_decide_eq_false c1
    refine Pv.lit rfl ?_
    exact Pv.zret rfl (by rw [hQ]; exact ⟨b2_f (decide_eq_false (rw_n hN c1)), rfl⟩)
  · skip
    replace c1 : decide (F.1 69 11 = 1) = true := by simpa using c1
    replace c1 := of_decide_eq_true c1
    refine Pv.aload rfl rfl ?_
    refine Pv.getL (z := F.2.2.1 69 17) rfl rfl (rfl) ?_
    refine Pv.lload rfl rfl ?_
    refine Pv.lcmp (z := lg_cmp (F.2.2.1 69 17) w) rfl (rfl) ?_
    refine Pv.if0 rfl (fun c2 => ?_) (fun c2 => ?_)
    · skip
      replace c2 : decide (lg_cmp (F.2.2.1 69 17) w = 0) = false := by simpa using c2
      replace c2 := of_decide_eq_false c2
      refine Pv.lit rfl ?_
      exact Pv.zret rfl (by rw [hQ]; exact ⟨b2_f (decide_eq_false (fun e => c2 (lcmp_0.mpr ((rw_eq hN hW hj hw c1).mpr e)))), rfl⟩)
    · skip
      replace c2 : decide (lg_cmp (F.2.2.1 69 17) w = 0) = true := by simpa using c2
      replace c2 := of_decide_eq_true c2
      refine Pv.lit rfl ?_
      refine Pv.goto rfl ?_
      exact Pv.zret rfl (by rw [hQ]; exact ⟨b2_t (decide_eq_true ((rw_eq hN hW hj hw c1).mp (lcmp_0.mp c2))), rfl⟩)
set_option maxRecDepth 100000 in
set_option maxHeartbeats 4000000 in
theorem r_isSign {F : FW} {X : TT} {x : Int32} (hN : NTF F X) (hx : rkk x.toInt = 3) : Pm Z_X11_isSign [.ref 69, .int x] F (fun r F' => r = some (.int (b2i (decide (X.k = x.toInt)))) ∧ F' = F) := by
  refine Pm.of fun N => ?_
  obtain ⟨Q, hQ⟩ : ∃ Q : Option Value → FW → Prop, Q = (fun r F' => r = some (.int (b2i (decide (X.k = x.toInt)))) ∧ F' = F) := ⟨_, rfl⟩
  rw [← hQ]
  refine (show Pv (ab_T L_X11_isSign) N 0 [some (.ref 69), some (.int x)] [] F Q from ?_)
  refine Pv.aload rfl rfl ?_
  refine Pv.getI (z := F.1 69 11) rfl rfl (rfl) ?_
  refine Pv.lit rfl ?_
  refine Pv.icmp rfl (fun c1 => ?_) (fun c1 => ?_)
  · skip
    replace c1 : decide (F.1 69 11 = 3) = false := by simpa using c1
    replace c1 := of_decide_eq_false c1
    refine Pv.lit rfl ?_
    exact Pv.zret rfl (by rw [hQ]; exact ⟨b2_f (decide_eq_false (rs_n hN hx c1)), rfl⟩)
  · skip
    replace c1 : decide (F.1 69 11 = 3) = true := by simpa using c1
    replace c1 := of_decide_eq_true c1
    refine Pv.aload rfl rfl ?_
    refine Pv.getI (z := F.1 69 14) rfl rfl (rfl) ?_
    refine Pv.iload rfl rfl ?_
    refine Pv.icmp rfl (fun c2 => ?_) (fun c2 => ?_)
    · skip
      replace c2 : decide (F.1 69 14 = x) = false := by simpa using c2
      replace c2 := of_decide_eq_false c2
      refine Pv.lit rfl ?_
      exact Pv.zret rfl (by rw [hQ]; exact ⟨b2_f (decide_eq_false (fun e => c2 ((rs_eq hN c1).mpr e))), rfl⟩)
    · skip
      replace c2 : decide (F.1 69 14 = x) = true := by simpa using c2
      replace c2 := of_decide_eq_true c2
      refine Pv.lit rfl ?_
      refine Pv.goto rfl ?_
      exact Pv.zret rfl (by rw [hQ]; exact ⟨b2_t (decide_eq_true ((rs_eq hN c1).mp c2)), rfl⟩)
set_option maxRecDepth 100000 in
set_option maxHeartbeats 4000000 in
theorem r_isName {F : FW} {X : TT} (hG : GW F) (hN : NTF F X) (hW : WOK X) (h8 : X.k ≤ 88) (hR : RWF F) : Pm Z_X11_isName [.ref 69] F (fun r F' => r = some (.int (b2i (decide (X.k = 2)))) ∧ F' = F) := by
  refine Pm.of fun N => ?_
  obtain ⟨Q, hQ⟩ : ∃ Q : Option Value → FW → Prop, Q = (fun r F' => r = some (.int (b2i (decide (X.k = 2)))) ∧ F' = F) := ⟨_, rfl⟩
  rw [← hQ]
  refine (show Pv (ab_T L_X11_isName) N 0 [some (.ref 69), none, none] [] F Q from ?_)
  refine Pv.aload rfl rfl ?_
  refine Pv.getI (z := F.1 69 11) rfl rfl (rfl) ?_
  refine Pv.lit rfl ?_
  refine Pv.icmp rfl (fun c1 => ?_) (fun c1 => ?_)
  · skip
    replace c1 : decide (F.1 69 11 = 1) = false := by simpa using c1
    replace c1 := of_decide_eq_false c1
    refine Pv.lit rfl ?_
    refine Pv.istore (lo' := [some (.ref 69), some (.int 0), none]) rfl rfl ?_
    refine Pv.lit rfl ?_
    refine Pv.istore (lo' := [some (.ref 69), some (.int 0), some (.int 0)]) rfl rfl ?_
    refine Pv.lp (ι := Int32 × Nat) (lof := fun ⟨b, j⟩ => [some (.ref 69), some (.int b), some (.int (Int32.ofNat j))]) (Ff := fun ⟨b, j⟩ => F) (P := fun ⟨b, j⟩ => j ≤ 25 ∧ b = b2i (nwd X j)) ?_ (0, 0) (⟨Nat.zero_le _, by rw [show nwd X 0 = false from decide_eq_false (fun e => c1 (Int32.toInt_inj.mp (by rw [hN.2.2.1, e]; rfl)))]; rfl⟩)
    rintro N2 hN3 ⟨b, j⟩ hi4 ih5
    refine (show Pv _ _ 16 [some (.ref 69), some (.int b), some (.int (Int32.ofNat j))] [] F Q from ?_)
    obtain ⟨hj, hb⟩ := hi4
    refine Pv.iloadS rfl rfl ?_
    refine Pv.lit rfl ?_
    refine Pv.icmp rfl (fun c6 => ?_) (fun c6 => ?_)
    · skip
      replace c6 := (i_le (a := 25) (b := j) (by omega) (by omega)).mp (of_decide_eq_true c6)
      refine Pv.iload rfl rfl ?_
      exact Pv.zret rfl (by rw [hQ]; exact ⟨by rw [hb, show j = 25 by omega, nwd_e h8], rfl⟩)
    · skip
      replace c6 := mt (i_le (a := 25) (b := j) (by omega) (by omega)).mpr (of_decide_eq_false c6)
      refine Pv.iload rfl rfl ?_
      refine Pv.if0 rfl (fun c7 => ?_) (fun c7 => ?_)
      · skip
        replace c7 := of_decide_eq_true c7
        refine Pv.lit rfl ?_
        refine Pv.istore (lo' := [some (.ref 69), some (.int 0), some (.int (Int32.ofNat j))]) rfl rfl ?_
        refine Pv.iinc (y := Int32.ofNat (j + 1)) (lo' := [some (.ref 69), some (.int 0), some (.int (Int32.ofNat (j + 1)))]) rfl rfl (i_add j 1) rfl ?_
        refine Pv.goto rfl ?_
        exact ih5 (0, j + 1) (⟨by omega, by show 0 = b2i (nwd X j && _); rw [b2z.mp (hb.symm.trans c7)]; rfl⟩)
      · skip
        replace c7 := of_decide_eq_false c7
        refine Pv.aload rfl rfl ?_
        refine Pv.getL (z := F.2.2.1 69 17) rfl rfl (rfl) ?_
        refine Pv.aload rfl rfl ?_
        refine Pv.getR (v := .ref 75) rfl rfl (GW.at (a := 69) (k := 10) (b := 75) hG (by decide)) ?_
        refine Pv.iload rfl rfl ?_
        refine Pv.lald (z := F.2.2.1 75 j) rfl (by rw [i_toNat (by omega)]) ?_
        refine Pv.lcmp (z := lg_cmp (F.2.2.1 69 17) (F.2.2.1 75 j)) rfl (rfl) ?_
        refine Pv.if0 rfl (fun c8 => ?_) (fun c8 => ?_)
        · skip
          replace c8 := of_decide_eq_true c8
          refine Pv.lit rfl ?_
          refine Pv.istore (lo' := [some (.ref 69), some (.int 0), some (.int (Int32.ofNat j))]) rfl rfl ?_
          refine Pv.iinc (y := Int32.ofNat (j + 1)) (lo' := [some (.ref 69), some (.int 0), some (.int (Int32.ofNat (j + 1)))]) rfl rfl (i_add j 1) rfl ?_
          refine Pv.goto rfl ?_
          exact ih5 (0, j + 1) (⟨by omega, by show 0 = b2i (nwd X j && !decide (X.k = 64 + (j : Int))); rw [decide_eq_true ((rn_eq hN hW hR (by omega) (b2n.mp (fun e => c7 (hb.trans e)))).mp (lcmp_0.mp c8)), Bool.and_comm]; rfl⟩)
        · skip
          replace c8 := of_decide_eq_false c8
          refine Pv.lit rfl ?_
          refine Pv.goto rfl ?_
          refine Pv.istore (lo' := [some (.ref 69), some (.int 1), some (.int (Int32.ofNat j))]) rfl rfl ?_
          refine Pv.iinc (y := Int32.ofNat (j + 1)) (lo' := [some (.ref 69), some (.int 1), some (.int (Int32.ofNat (j + 1)))]) rfl rfl (i_add j 1) rfl ?_
          refine Pv.goto rfl ?_
          exact ih5 (1, j + 1) (⟨by omega, by show 1 = b2i (nwd X j && !decide (X.k = 64 + (j : Int))); rw [b2n.mp (fun e => c7 (hb.trans e)), decide_eq_false (fun e => c8 (lcmp_0.mpr ((rn_eq hN hW hR (by omega) (b2n.mp (fun e => c7 (hb.trans e)))).mpr e)))]; rfl⟩)
  · skip
    replace c1 : decide (F.1 69 11 = 1) = true := by simpa using c1
    replace c1 := of_decide_eq_true c1
    refine Pv.lit rfl ?_
    refine Pv.goto rfl ?_
    refine Pv.istore (lo' := [some (.ref 69), some (.int 1), none]) rfl rfl ?_
    refine Pv.lit rfl ?_
    refine Pv.istore (lo' := [some (.ref 69), some (.int 1), some (.int 0)]) rfl rfl ?_
    refine Pv.lp (ι := Int32 × Nat) (lof := fun ⟨b, j⟩ => [some (.ref 69), some (.int b), some (.int (Int32.ofNat j))]) (Ff := fun ⟨b, j⟩ => F) (P := fun ⟨b, j⟩ => j ≤ 25 ∧ b = b2i (nwd X j)) ?_ (1, 0) (⟨Nat.zero_le _, by rw [show nwd X 0 = true from decide_eq_true (rw_k hN c1)]; rfl⟩)
    rintro N9 hN10 ⟨b, j⟩ hi11 ih12
    refine (show Pv _ _ 16 [some (.ref 69), some (.int b), some (.int (Int32.ofNat j))] [] F Q from ?_)
    obtain ⟨hj, hb⟩ := hi11
    refine Pv.iloadS rfl rfl ?_
    refine Pv.lit rfl ?_
    refine Pv.icmp rfl (fun c13 => ?_) (fun c13 => ?_)
    · skip
      replace c13 := (i_le (a := 25) (b := j) (by omega) (by omega)).mp (of_decide_eq_true c13)
      refine Pv.iload rfl rfl ?_
      exact Pv.zret rfl (by rw [hQ]; exact ⟨by rw [hb, show j = 25 by omega, nwd_e h8], rfl⟩)
    · skip
      replace c13 := mt (i_le (a := 25) (b := j) (by omega) (by omega)).mpr (of_decide_eq_false c13)
      refine Pv.iload rfl rfl ?_
      refine Pv.if0 rfl (fun c14 => ?_) (fun c14 => ?_)
      · skip
        replace c14 := of_decide_eq_true c14
        refine Pv.lit rfl ?_
        refine Pv.istore (lo' := [some (.ref 69), some (.int 0), some (.int (Int32.ofNat j))]) rfl rfl ?_
        refine Pv.iinc (y := Int32.ofNat (j + 1)) (lo' := [some (.ref 69), some (.int 0), some (.int (Int32.ofNat (j + 1)))]) rfl rfl (i_add j 1) rfl ?_
        refine Pv.goto rfl ?_
        exact ih12 (0, j + 1) (⟨by omega, by show 0 = b2i (nwd X j && _); rw [b2z.mp (hb.symm.trans c14)]; rfl⟩)
      · skip
        replace c14 := of_decide_eq_false c14
        refine Pv.aload rfl rfl ?_
        refine Pv.getL (z := F.2.2.1 69 17) rfl rfl (rfl) ?_
        refine Pv.aload rfl rfl ?_
        refine Pv.getR (v := .ref 75) rfl rfl (GW.at (a := 69) (k := 10) (b := 75) hG (by decide)) ?_
        refine Pv.iload rfl rfl ?_
        refine Pv.lald (z := F.2.2.1 75 j) rfl (by rw [i_toNat (by omega)]) ?_
        refine Pv.lcmp (z := lg_cmp (F.2.2.1 69 17) (F.2.2.1 75 j)) rfl (rfl) ?_
        refine Pv.if0 rfl (fun c15 => ?_) (fun c15 => ?_)
        · skip
          replace c15 := of_decide_eq_true c15
          refine Pv.lit rfl ?_
          refine Pv.istore (lo' := [some (.ref 69), some (.int 0), some (.int (Int32.ofNat j))]) rfl rfl ?_
          refine Pv.iinc (y := Int32.ofNat (j + 1)) (lo' := [some (.ref 69), some (.int 0), some (.int (Int32.ofNat (j + 1)))]) rfl rfl (i_add j 1) rfl ?_
          refine Pv.goto rfl ?_
          exact ih12 (0, j + 1) (⟨by omega, by show 0 = b2i (nwd X j && !decide (X.k = 64 + (j : Int))); rw [decide_eq_true ((rn_eq hN hW hR (by omega) (b2n.mp (fun e => c14 (hb.trans e)))).mp (lcmp_0.mp c15)), Bool.and_comm]; rfl⟩)
        · skip
          replace c15 := of_decide_eq_false c15
          refine Pv.lit rfl ?_
          refine Pv.goto rfl ?_
          refine Pv.istore (lo' := [some (.ref 69), some (.int 1), some (.int (Int32.ofNat j))]) rfl rfl ?_
          refine Pv.iinc (y := Int32.ofNat (j + 1)) (lo' := [some (.ref 69), some (.int 1), some (.int (Int32.ofNat (j + 1)))]) rfl rfl (i_add j 1) rfl ?_
          refine Pv.goto rfl ?_
          exact ih12 (1, j + 1) (⟨by omega, by show 1 = b2i (nwd X j && !decide (X.k = 64 + (j : Int))); rw [b2n.mp (fun e => c14 (hb.trans e)), decide_eq_false (fun e => c15 (lcmp_0.mpr ((rn_eq hN hW hR (by omega) (b2n.mp (fun e => c14 (hb.trans e)))).mpr e)))]; rfl⟩)
set_option maxRecDepth 100000 in
set_option maxHeartbeats 4000000 in
theorem r_find {F : FW} {nm : Nat → Int} {o n : Nat} {w : Int64} {v : Int} (hG : GW F) (ho : o ≤ 20) (hn : n ≤ 8) (hM : ∀ g, g < n → (F.2.2.1 74 (o + g)).toInt = nm (o + g)) (h17 : F.2.2.1 69 17 = w) (hw : w.toInt = v) : Pm Z_X11_find [.ref 69, .int (Int32.ofNat o), .int (Int32.ofNat n)] F (fun r F' => r = some (.int (oN (m_fst (fP nm o v) n))) ∧ F' = F) := by
  refine Pm.of fun N => ?_
  obtain ⟨Q, hQ⟩ : ∃ Q : Option Value → FW → Prop, Q = (fun r F' => r = some (.int (oN (m_fst (fP nm o v) n))) ∧ F' = F) := ⟨_, rfl⟩
  rw [← hQ]
  refine (show Pv (ab_T L_X11_find) N 0 [some (.ref 69), some (.int (Int32.ofNat o)), some (.int (Int32.ofNat n)), none] [] F Q from ?_)
  refine Pv.lit rfl ?_
  refine Pv.istore (lo' := [some (.ref 69), some (.int (Int32.ofNat o)), some (.int (Int32.ofNat n)), some (.int 0)]) rfl rfl ?_
  refine Pv.lp (ι := Nat) (lof := fun k => [some (.ref 69), some (.int (Int32.ofNat o)), some (.int (Int32.ofNat n)), some (.int (Int32.ofNat k))]) (Ff := fun k => F) (P := fun k => k ≤ n ∧ m_fst (fP nm o v) k = none) ?_ 0 (⟨Nat.zero_le _, rfl⟩)
  rintro N1 hN2 k hi3 ih4
  refine (show Pv _ _ 2 [some (.ref 69), some (.int (Int32.ofNat o)), some (.int (Int32.ofNat n)), some (.int (Int32.ofNat k))] [] F Q from ?_)
  obtain ⟨hk, hb⟩ := hi3
  refine Pv.iloadS rfl rfl ?_
  refine Pv.iload rfl rfl ?_
  refine Pv.icmp rfl (fun c5 => ?_) (fun c5 => ?_)
  · skip
    replace c5 := (i_le (a := n) (b := k) (by omega) (by omega)).mp (of_decide_eq_true c5)
    refine Pv.lit rfl ?_
    exact Pv.ret rfl (by rw [hQ]; exact ⟨by rw [show n = k by omega, hb]; rfl, rfl⟩)
  · skip
    replace c5 := mt (i_le (a := n) (b := k) (by omega) (by omega)).mpr (of_decide_eq_false c5)
    refine Pv.aload rfl rfl ?_
    refine Pv.getR (v := .ref 74) rfl rfl (GW.at (a := 69) (k := 9) (b := 74) hG (by decide)) ?_
    refine Pv.iload rfl rfl ?_
    refine Pv.iload rfl rfl ?_
    refine Pv.bin (z := Int32.ofNat (o + k)) rfl (i_add o k) ?_
    refine Pv.lald (z := F.2.2.1 74 (o + k)) rfl (by rw [i_toNat (by omega)]) ?_
    refine Pv.aload rfl rfl ?_
    refine Pv.getL (z := w) rfl rfl (h17) ?_
    refine Pv.lcmp (z := lg_cmp (F.2.2.1 74 (o + k)) w) rfl (rfl) ?_
    refine Pv.if0 rfl (fun c6 => ?_) (fun c6 => ?_)
    · skip
      replace c6 : decide (lg_cmp (F.2.2.1 74 (o + k)) w = 0) = false := by simpa using c6
      replace c6 := of_decide_eq_false c6
      refine Pv.iinc (y := Int32.ofNat (k + 1)) (lo' := [some (.ref 69), some (.int (Int32.ofNat o)), some (.int (Int32.ofNat n)), some (.int (Int32.ofNat (k + 1)))]) rfl rfl (i_add k 1) rfl ?_
      refine Pv.goto rfl ?_
      exact ih4 (k + 1) (⟨by omega, m_fst_n hb (decide_eq_false (fun e => c6 (lcmp_0.mpr (Int64.toInt_inj.mp (by rw [hM k (by omega), hw]; exact e)))))⟩)
    · skip
      replace c6 : decide (lg_cmp (F.2.2.1 74 (o + k)) w = 0) = true := by simpa using c6
      replace c6 := of_decide_eq_true c6
      refine Pv.iload rfl rfl ?_
      exact Pv.ret rfl (by rw [hQ]; exact ⟨by rw [m_fst_e hb (show fP nm o v k = true from decide_eq_true (by rw [← hM k (by omega), ← hw]; exact congrArg Int64.toInt (lcmp_0.mp c6))) (by omega)]; rfl, rfl⟩)
set_option maxRecDepth 100000 in
set_option maxHeartbeats 4000000 in
theorem r_bad {F : FW} {c : Int32} (hG : GW F) : Pm Z_X11_bad [.ref 69, .int c] F (fun r F' => r = some (.int 0) ∧ F' = fp (fp F 69 15 c) 69 16 (F.1 69 12)) := by
  refine Pm.of fun N => ?_
  obtain ⟨Q, hQ⟩ : ∃ Q : Option Value → FW → Prop, Q = (fun r F' => r = some (.int 0) ∧ F' = fp (fp F 69 15 c) 69 16 (F.1 69 12)) := ⟨_, rfl⟩
  rw [← hQ]
  refine (show Pv (ab_T L_X11_bad) N 0 [some (.ref 69), some (.int c)] [] F Q from ?_)
  refine Pv.aload rfl rfl ?_
  refine Pv.iload rfl rfl ?_
  refine Pv.putI rfl rfl ?_
  refine Pv.aload rfl rfl ?_
  refine Pv.aload rfl rfl ?_
  refine Pv.getI (z := F.1 69 12) rfl rfl (fp_ne (Or.inr (by decide))) ?_
  refine Pv.putI rfl rfl ?_
  refine Pv.lit rfl ?_
  exact Pv.zret rfl (by rw [hQ]; exact ⟨rfl, rfl⟩)
end
-- 63.b81.rt.lean.txt
section
/-! ===== the reference stands at token i ===== -/
def RTK (F : FW) (B : Nat → Int) (n lim i : Nat) : Prop := F.1 69 3 = Int32.ofNat n ∧ F.1 69 5 = Int32.ofNat lim ∧ RBF F n = B ∧ NTF F (tok B n lim i) ∧ n ≤ 940 ∧ lim ≤ 940
theorem tkt_n {B : Nat → Int} {n lim p : Nat} (h : p ≤ n) : (tkt B n lim p).nx ≤ n := tkq_n (tk_e_le h)
theorem tok_n {B : Nat → Int} {n lim : Nat} : ∀ i, (tok B n lim i).nx ≤ n
  | 0 => tkt_n (Nat.zero_le n)
  | i + 1 => tkt_n (tok_n i)
/-- what reading changes: FX 69, its cells of reading, the fault, its place, what was found -/
def RLX (F G : FW) : Prop := FX (fun q => q = 69) F G ∧ (∀ k, k ≠ 4 → k ≠ 11 → k ≠ 12 → k ≠ 13 → k ≠ 14 → k ≠ 15 → k ≠ 16 → k ≠ 18 → G.1 69 k = F.1 69 k) ∧ ∀ k, k ≠ 17 → G.2.2.1 69 k = F.2.2.1 69 k
theorem RLX.rf {F : FW} : RLX F F := ⟨FX.rf, fun _ _ _ _ _ _ _ _ _ => rfl, fun _ _ => rfl⟩
theorem RLX.tr {F G H : FW} (a : RLX F G) (b : RLX G H) : RLX F H := ⟨a.1.tr b.1, fun k h1 h2 h3 h4 h5 h6 h7 h8 => (b.2.1 k h1 h2 h3 h4 h5 h6 h7 h8).trans (a.2.1 k h1 h2 h3 h4 h5 h6 h7 h8), fun k h => (b.2.2 k h).trans (a.2.2 k h)⟩
theorem RLX.of {F G : FW} (h : RNX F G) : RLX F G := ⟨h.1, fun k h1 h2 h3 h4 h5 _ _ _ => h.2.1 k h1 h2 h3 h4 h5, h.2.2⟩
theorem RLX.G {F G : FW} (h : RLX F G) (g : GW F) : GW G := g.fx h.1
theorem RLX.fp {F G : FW} {k : Nat} {v : Int32} (h : RLX F G) (c : k = 15 ∨ k = 16 ∨ k = 18) : RLX F (fp G 69 k v) := ⟨h.1.fp rfl, fun j h1 h2 h3 h4 h5 h6 h7 h8 => (fp_ne (Or.inr (by omega))).trans (h.2.1 j h1 h2 h3 h4 h5 h6 h7 h8), h.2.2⟩
theorem RBF_same {F G : FW} {n : Nat} (h : ∀ k, G.1 70 k = F.1 70 k) : RBF G n = RBF F n := funext fun q => by
  unfold RBF bI
  rw [h]
theorem NTF.at {F : FW} {X : TT} {k : Nat} {v : Int32} (h : NTF F X) (c : k = 15 ∨ k = 16 ∨ k = 18) : NTF (fp F 69 k v) X := by
  have e : ∀ j, j = 4 ∨ j = 11 ∨ j = 12 ∨ j = 14 → (fp F 69 k v).1 69 j = F.1 69 j := fun j hj => fp_ne (Or.inr (by omega))
  unfold NTF
  rw [e 12 (by decide), e 4 (by decide), e 11 (by decide), e 14 (by decide)]
  exact h
theorem RTK.at {F : FW} {B : Nat → Int} {n lim i k : Nat} {v : Int32} (h : RTK F B n lim i) (c : k = 15 ∨ k = 16 ∨ k = 18) : RTK (fp F 69 k v) B n lim i :=
  ⟨(fp_ne (Or.inr (by omega))).trans h.1, (fp_ne (Or.inr (by omega))).trans h.2.1, (RBF_same fun _ => fp_ne (Or.inl (by decide))).trans h.2.2.1, h.2.2.2.1.at c, h.2.2.2.2⟩
theorem Pm.imp {X : List Value → ab_H → Option ab_O} {as : List Value} {F : FW} {Q Q' : Option Value → FW → Prop} (h : Pm X as F Q) (g : ∀ r F', Q r F' → Q' r F') : Pm X as F Q' := fun hp o hw hF e => ⟨(h hp o hw hF e).1, g _ _ (h hp o hw hF e).2⟩
theorem r_next {F : FW} {B : Nat → Int} {n lim i : Nat} (hG : GW F) (h : RTK F B n lim i) : Pm Z_X11_next [.ref 69] F (fun r F' => r = none ∧ RNX F F' ∧ RTK F' B n lim (i + 1)) :=
  Pm.imp (g_next hG h.1 h.2.2.2.1.2.1 h.2.1 h.2.2.2.2.1 (tok_n i) h.2.2.2.2.2) fun r F' x => by
    obtain ⟨rfl, x1, x2⟩ := x
    refine ⟨rfl, x1, (x1.2.1 3 (by decide) (by decide) (by decide) (by decide) (by decide)).trans h.1, (x1.2.1 5 (by decide) (by decide) (by decide) (by decide) (by decide)).trans h.2.1, (RBF_same fun k => x1.1.1 70 k (by decide)).trans h.2.2.1, ?_, h.2.2.2.2⟩
    rw [h.2.2.1] at x2
    exact x2
/-- what came of taking token i: then it stands at j; or c is wrong with it -/
def RSP (F G : FW) (B : Nat → Int) (n lim i j : Nat) (c : Int32) : Prop := RLX F G ∧ (c = 0 → RTK G B n lim j ∧ G.1 69 15 = F.1 69 15) ∧ (¬ c = 0 → G.1 69 15 = c ∧ (G.1 69 16).toInt = (tok B n lim i).pl)
theorem RSP.bad {F G : FW} {B : Nat → Int} {n lim i j : Nat} {c : Int32} (h : RLX F G) (t : RTK G B n lim i) (hc : ¬ c = 0) : RSP F (fp (fp G 69 15 c) 69 16 (G.1 69 12)) B n lim i j c :=
  ⟨(h.fp (Or.inl rfl)).fp (Or.inr (Or.inl rfl)), fun e => absurd e hc, fun _ => ⟨(fp_ne (Or.inr (by decide))).trans fp_eq, (congrArg Int32.toInt fp_eq).trans t.2.2.2.1.1⟩⟩
def lkc (nm : Nat → Int) (o n : Nat) (X : TT) : Int32 := if X.k = 2 then (if oN (m_fst (fP nm o X.v) n) = -1 then 3 else 0) else 1
theorem oN_neg {P : Nat → Bool} {n : Nat} (hn : n ≤ 8) : oN (m_fst P n) < 0 ↔ oN (m_fst P n) = -1 := by
  refine ⟨fun h => ?_, fun h => by rw [h]; decide⟩
  rw [oN_n (by omega) h]
  rfl
theorem ntf_2 {F : FW} {X : TT} (hN : NTF F X) : F.1 69 11 = 2 ↔ X.k = 3 := by
  constructor
  · intro e
    refine rkk_2 ?_
    rw [← hN.2.2.1, e]
    rfl
  · intro e
    refine Int32.toInt_inj.mp ?_
    rw [hN.2.2.1, e]
    rfl
theorem ntf_v {F : FW} {X : TT} (hN : NTF F X) (e : X.k = 3) : (F.1 69 14).toInt = X.v := hN.2.2.2.1 (by rw [e]; rfl)
end
-- 63.b81a.lean.txt
section
set_option maxRecDepth 100000 in
set_option maxHeartbeats 4000000 in
theorem r_sign {F : FW} {B : Nat → Int} {n lim i : Nat} (hG : GW F) (hT : RTK F B n lim i) {x : Int32} (hx : rkk x.toInt = 3) : Pm Z_X11_sign [.ref 69, .int x] F (fun r F' => r = some (.int (b2i (decide (tnS (tok B n lim i) x.toInt = 0)))) ∧ RSP F F' B n lim i (i + 1) (tnS (tok B n lim i) x.toInt)) := by
  refine Pm.of fun N => ?_
  obtain ⟨Q, hQ⟩ : ∃ Q : Option Value → FW → Prop, Q = (fun r F' => r = some (.int (b2i (decide (tnS (tok B n lim i) x.toInt = 0)))) ∧ RSP F F' B n lim i (i + 1) (tnS (tok B n lim i) x.toInt)) := ⟨_, rfl⟩
  rw [← hQ]
  refine (show Pv (ab_T (L_X11_sign Z_X11_isSign Z_X11_bad Z_X11_next)) N 0 [some (.ref 69), some (.int x)] [] F Q from ?_)
  refine Pv.aload rfl rfl ?_
  refine Pv.iload rfl rfl ?_
  refine Pv.callVI (as := [.ref 69, .int x]) (rest := []) (z := b2i (decide ((tok B n lim i).k = x.toInt))) rfl rfl rfl (r_isSign hT.2.2.2.1 hx) ?_
  refine Pv.if0 rfl (fun c1 => ?_) (fun c1 => ?_)
  · skip
    replace c1 : decide (b2i (decide ((tok B n lim i).k = x.toInt)) = 0) = false := by simpa using c1
    replace c1 := of_decide_eq_false c1
    replace c1 := b2n.mp c1
    refine Pv.aload rfl rfl ?_
    refine Pv.callV (as := [.ref 69]) (rest := []) rfl rfl rfl (r_next hG hT) ?_
    rintro _ Gn ⟨rfl, xn, tn⟩
    have gn := RNX.G xn hG
    refine (show Pv _ _ 18 [some (.ref 69), some (.int x)] [] Gn Q from ?_)
    refine Pv.lit rfl ?_
    have ec : tnS (tok B n lim i) x.toInt = 0 := if_pos (of_decide_eq_true c1)
    exact Pv.zret rfl (by rw [hQ]; exact ⟨by rw [ec]; rfl, by rw [ec]; exact ⟨(RLX.rf).tr (RLX.of xn), fun _ => ⟨tn, (xn.2.1 15 (by decide) (by decide) (by decide) (by decide) (by decide)).trans (rfl)⟩, fun e => absurd rfl e⟩⟩)
  · skip
    replace c1 : decide (b2i (decide ((tok B n lim i).k = x.toInt)) = 0) = true := by simpa using c1
    replace c1 := of_decide_eq_true c1
    replace c1 := b2z.mp c1
    refine Pv.aload rfl rfl ?_
    refine Pv.lit rfl ?_
    refine Pv.callVI (as := [.ref 69, .int 1]) (rest := []) (z := 0) rfl rfl rfl (r_bad (c := 1) hG) ?_
    have ec : tnS (tok B n lim i) x.toInt = 1 := if_neg (of_decide_eq_false c1)
    exact Pv.zret rfl (by rw [hQ]; exact ⟨by rw [ec]; rfl, by rw [ec]; exact RSP.bad RLX.rf hT (by decide)⟩)
set_option maxRecDepth 100000 in
set_option maxHeartbeats 4000000 in
theorem r_takes {F : FW} {B : Nat → Int} {n lim i : Nat} (hG : GW F) (hT : RTK F B n lim i) (lo hi : Int32) : Pm Z_X11_takes [.ref 69, .int lo, .int hi] F (fun r F' => r = some (.int (b2i (decide (tnN (tok B n lim i) lo.toInt hi.toInt = 0)))) ∧ RSP F F' B n lim i (i + 1) (tnN (tok B n lim i) lo.toInt hi.toInt) ∧ (tnN (tok B n lim i) lo.toInt hi.toInt = 0 → (F'.1 69 18).toInt = (tok B n lim i).v)) := by
  refine Pm.of fun N => ?_
  obtain ⟨Q, hQ⟩ : ∃ Q : Option Value → FW → Prop, Q = (fun r F' => r = some (.int (b2i (decide (tnN (tok B n lim i) lo.toInt hi.toInt = 0)))) ∧ RSP F F' B n lim i (i + 1) (tnN (tok B n lim i) lo.toInt hi.toInt) ∧ (tnN (tok B n lim i) lo.toInt hi.toInt = 0 → (F'.1 69 18).toInt = (tok B n lim i).v)) := ⟨_, rfl⟩
  rw [← hQ]
  refine (show Pv (ab_T (L_X11_takes Z_X11_bad Z_X11_isIn Z_X11_next)) N 0 [some (.ref 69), some (.int lo), some (.int hi)] [] F Q from ?_)
  refine Pv.aload rfl rfl ?_
  refine Pv.getI (z := F.1 69 11) rfl rfl (rfl) ?_
  refine Pv.lit rfl ?_
  refine Pv.icmp rfl (fun c1 => ?_) (fun c1 => ?_)
  · skip
    replace c1 := of_decide_eq_true c1
    refine Pv.aload rfl rfl ?_
    refine Pv.getI (z := F.1 69 14) rfl rfl (rfl) ?_
    refine Pv.iload rfl rfl ?_
    refine Pv.iload rfl rfl ?_
    refine Pv.callI (as := [.int (F.1 69 14), .int lo, .int hi]) (rest := []) (z := b2i (decide (lo ≤ (F.1 69 14)) && decide ((F.1 69 14) ≤ hi))) rfl rfl rfl (q_isIn (F.1 69 14) lo hi) ?_
    refine Pv.if0 rfl (fun c2 => ?_) (fun c2 => ?_)
    · skip
      replace c2 : decide (b2i (decide (lo ≤ (F.1 69 14)) && decide ((F.1 69 14) ≤ hi)) = 0) = false := by simpa using c2
      replace c2 := of_decide_eq_false c2
      replace c2 := b2n.mp c2
      refine Pv.aload rfl rfl ?_
      refine Pv.aload rfl rfl ?_
      refine Pv.getI (z := F.1 69 14) rfl rfl (rfl) ?_
      refine Pv.putI rfl rfl ?_
      refine Pv.aload rfl rfl ?_
      refine Pv.callV (as := [.ref 69]) (rest := []) rfl rfl rfl (r_next (hG.fx (P := fun _ => True) (((FX.rf (P := fun _ => True))).fp trivial)) (RTK.at hT (Or.inr (Or.inr rfl)))) ?_
      rintro _ Gn ⟨rfl, xn, tn⟩
      have gn := RNX.G xn (hG.fx (P := fun _ => True) (((FX.rf (P := fun _ => True))).fp trivial))
      refine (show Pv _ _ 44 [some (.ref 69), some (.int lo), some (.int hi)] [] Gn Q from ?_)
      refine Pv.lit rfl ?_
      have ec : tnN (tok B n lim i) lo.toInt hi.toInt = 0 := by have k3 := (ntf_2 hT.2.2.2.1).mp c1; have q3 := ntf_v hT.2.2.2.1 k3; have z := c2; rw [Bool.and_eq_true, decide_eq_true_eq, decide_eq_true_eq, Int32.le_iff_toInt_le, Int32.le_iff_toInt_le, q3] at z; unfold tnN; rw [if_pos k3]; exact if_neg (by omega)
      exact Pv.zret rfl (by rw [hQ]; exact ⟨by rw [ec]; rfl, by rw [ec]; exact ⟨((RLX.fp RLX.rf (Or.inr (Or.inr rfl)))).tr (RLX.of xn), fun _ => ⟨tn, (xn.2.1 15 (by decide) (by decide) (by decide) (by decide) (by decide)).trans (fp_ne (Or.inr (by decide)))⟩, fun e => absurd rfl e⟩, fun _ => (congrArg Int32.toInt ((xn.2.1 18 (by decide) (by decide) (by decide) (by decide) (by decide)).trans (fp_eq))).trans (ntf_v hT.2.2.2.1 ((ntf_2 hT.2.2.2.1).mp c1))⟩)
    · skip
      replace c2 : decide (b2i (decide (lo ≤ (F.1 69 14)) && decide ((F.1 69 14) ≤ hi)) = 0) = true := by simpa using c2
      replace c2 := of_decide_eq_true c2
      replace c2 := b2z.mp c2
      refine Pv.aload rfl rfl ?_
      refine Pv.lit rfl ?_
      refine Pv.callVI (as := [.ref 69, .int 2]) (rest := []) (z := 0) rfl rfl rfl (r_bad (c := 2) hG) ?_
      have ec : tnN (tok B n lim i) lo.toInt hi.toInt = 2 := by have k3 := (ntf_2 hT.2.2.2.1).mp c1; have q3 := ntf_v hT.2.2.2.1 k3; have z := c2; rw [Bool.and_eq_false_iff, decide_eq_false_iff_not, decide_eq_false_iff_not, Int32.le_iff_toInt_le, Int32.le_iff_toInt_le, q3] at z; unfold tnN; rw [if_pos k3]; exact if_pos (by omega)
      exact Pv.zret rfl (by rw [hQ]; exact ⟨by rw [ec]; rfl, by rw [ec]; exact RSP.bad RLX.rf hT (by decide), fun e => absurd (ec.symm.trans e) (by decide)⟩)
  · skip
    replace c1 := of_decide_eq_false c1
    refine Pv.aload rfl rfl ?_
    refine Pv.lit rfl ?_
    refine Pv.callVI (as := [.ref 69, .int 1]) (rest := []) (z := 0) rfl rfl rfl (r_bad (c := 1) hG) ?_
    have ec : tnN (tok B n lim i) lo.toInt hi.toInt = 1 := if_neg (fun e => c1 ((ntf_2 hT.2.2.2.1).mpr e))
    exact Pv.zret rfl (by rw [hQ]; exact ⟨by rw [ec]; rfl, by rw [ec]; exact RSP.bad RLX.rf hT (by decide), fun e => absurd (ec.symm.trans e) (by decide)⟩)
end
-- 63.b82.lk.lean.txt
section
/-! ===== a name that is looked up ===== -/
theorem lkc_ok {nm : Nat → Int} {o q : Nat} {X : TT} (hq : q ≤ 8) (h : X.k = 2) (c : 0 ≤ oN (m_fst (fP nm o X.v) q)) : lkc nm o q X = 0 := by
  unfold lkc
  rw [if_pos h]
  refine if_neg (fun e => ?_)
  rw [e] at c
  exact absurd c (by decide)
theorem lkc_3 {nm : Nat → Int} {o q : Nat} {X : TT} (hq : q ≤ 8) (h : X.k = 2) (c : ¬ 0 ≤ oN (m_fst (fP nm o X.v) q)) : lkc nm o q X = 3 := by
  unfold lkc
  rw [if_pos h]
  exact if_pos ((oN_neg hq).mp (Int32.not_le.mp c))
theorem lkc_1 {nm : Nat → Int} {o q : Nat} {X : TT} (h : ¬ X.k = 2) : lkc nm o q X = 1 := if_neg h
theorem ntf_w {F : FW} {X : TT} (hN : NTF F X) (e : X.k = 2) : (F.2.2.1 69 17).toInt = X.v := hN.2.2.2.2.2 (by rw [e]; rfl)
/-- names, reserved words: what reading leaves -/
theorem RLX.RW {F G : FW} (h : RLX F G) (r : RWF F) : RWF G := fun j hj => by
  rw [h.1.2.1 75 j (by decide)]
  exact r j hj
end
-- 63.b82a.lean.txt
section
set_option maxRecDepth 100000 in
set_option maxHeartbeats 4000000 in
theorem r_looksAt {F : FW} {B : Nat → Int} {n lim i : Nat} (hG : GW F) (hT : RTK F B n lim i) {nm : Nat → Int} {o q : Nat} (ho : o ≤ 20) (hq : q ≤ 8) (hM : ∀ g, g < q → (F.2.2.1 74 (o + g)).toInt = nm (o + g)) (hR : RWF F) : Pm Z_X11_looksAt [.ref 69, .int (Int32.ofNat o), .int (Int32.ofNat q)] F (fun r F' => r = some (.int (b2i (decide (lkc nm o q (tok B n lim i) = 0)))) ∧ RSP F F' B n lim i i (lkc nm o q (tok B n lim i)) ∧ (lkc nm o q (tok B n lim i) = 0 → F'.1 69 18 = oN (m_fst (fP nm o (tok B n lim i).v) q))) := by
  refine Pm.of fun N => ?_
  obtain ⟨Q, hQ⟩ : ∃ Q : Option Value → FW → Prop, Q = (fun r F' => r = some (.int (b2i (decide (lkc nm o q (tok B n lim i) = 0)))) ∧ RSP F F' B n lim i i (lkc nm o q (tok B n lim i)) ∧ (lkc nm o q (tok B n lim i) = 0 → F'.1 69 18 = oN (m_fst (fP nm o (tok B n lim i).v) q))) := ⟨_, rfl⟩
  rw [← hQ]
  refine (show Pv (ab_T (L_X11_looksAt Z_X11_isName Z_X11_bad Z_X11_find)) N 0 [some (.ref 69), some (.int (Int32.ofNat o)), some (.int (Int32.ofNat q))] [] F Q from ?_)
  refine Pv.aload rfl rfl ?_
  refine Pv.callVI (as := [.ref 69]) (rest := []) (z := b2i (decide ((tok B n lim i).k = 2))) rfl rfl rfl (r_isName hG hT.2.2.2.1 (tok_wok _ _ _ _) (tok_k88 _ _ _ _) hR) ?_
  refine Pv.if0 rfl (fun c1 => ?_) (fun c1 => ?_)
  · skip
    replace c1 : decide (b2i (decide ((tok B n lim i).k = 2)) = 0) = false := by simpa using c1
    replace c1 := of_decide_eq_false c1
    replace c1 := b2n.mp c1
    refine Pv.aload rfl rfl ?_
    refine Pv.aload rfl rfl ?_
    refine Pv.iload rfl rfl ?_
    refine Pv.iload rfl rfl ?_
    refine Pv.callVI (as := [.ref 69, .int (Int32.ofNat o), .int (Int32.ofNat q)]) (rest := [.ref 69]) (z := oN (m_fst (fP nm o (tok B n lim i).v) q)) rfl rfl rfl (r_find (nm := nm) (v := (tok B n lim i).v) hG ho hq hM rfl (ntf_w hT.2.2.2.1 (of_decide_eq_true c1))) ?_
    refine Pv.putI rfl rfl ?_
    refine Pv.aload rfl rfl ?_
    refine Pv.getI (z := oN (m_fst (fP nm o (tok B n lim i).v) q)) rfl rfl (fp_eq) ?_
    refine Pv.if0 rfl (fun c2 => ?_) (fun c2 => ?_)
    · skip
      replace c2 := of_decide_eq_true c2
      refine Pv.lit rfl ?_
      refine Pv.goto rfl ?_
      have ec : lkc nm o q (tok B n lim i) = 0 := lkc_ok hq (of_decide_eq_true c1) c2
      exact Pv.zret rfl (by rw [hQ]; exact ⟨by rw [ec]; rfl, by rw [ec]; exact ⟨(RLX.fp RLX.rf (Or.inr (Or.inr rfl))), fun _ => ⟨(RTK.at hT (Or.inr (Or.inr rfl))), fp_ne (Or.inr (by decide))⟩, fun e => absurd rfl e⟩, fun _ => fp_eq⟩)
    · skip
      replace c2 := of_decide_eq_false c2
      refine Pv.aload rfl rfl ?_
      refine Pv.lit rfl ?_
      refine Pv.callVI (as := [.ref 69, .int 3]) (rest := []) (z := 0) rfl rfl rfl (r_bad (c := 3) (hG.fx (P := fun _ => True) (((FX.rf (P := fun _ => True))).fp trivial))) ?_
      refine Pv.if0 rfl (fun c3 => ?_) (fun c3 => ?_)
      · skip
        replace c3 := (i_eq (a := 0) (b := 0) (by omega) (by omega)).mp (of_decide_eq_true c3)
        refine Pv.lit rfl ?_
        have ec : lkc nm o q (tok B n lim i) = 3 := lkc_3 hq (of_decide_eq_true c1) c2
        exact Pv.zret rfl (by rw [hQ]; exact ⟨by rw [ec]; rfl, by rw [ec]; exact RSP.bad (RLX.fp RLX.rf (Or.inr (Or.inr rfl))) (RTK.at hT (Or.inr (Or.inr rfl))) (by decide), fun e => absurd (ec.symm.trans e) (by decide)⟩)
      · skip
        replace c3 := mt (i_eq (a := 0) (b := 0) (by omega) (by omega)).mpr (of_decide_eq_false c3)
        omega
  · skip
    replace c1 : decide (b2i (decide ((tok B n lim i).k = 2)) = 0) = true := by simpa using c1
    replace c1 := of_decide_eq_true c1
    replace c1 := b2z.mp c1
    refine Pv.aload rfl rfl ?_
    refine Pv.lit rfl ?_
    refine Pv.callVI (as := [.ref 69, .int 1]) (rest := []) (z := 0) rfl rfl rfl (r_bad (c := 1) hG) ?_
    have ec : lkc nm o q (tok B n lim i) = 1 := lkc_1 (of_decide_eq_false c1)
    exact Pv.zret rfl (by rw [hQ]; exact ⟨by rw [ec]; rfl, by rw [ec]; exact RSP.bad RLX.rf hT (by decide), fun e => absurd (ec.symm.trans e) (by decide)⟩)
set_option maxRecDepth 100000 in
set_option maxHeartbeats 4000000 in
theorem r_takesName {F : FW} {B : Nat → Int} {n lim i : Nat} (hG : GW F) (hT : RTK F B n lim i) {nm : Nat → Int} {o q : Nat} (ho : o ≤ 20) (hq : q ≤ 8) (hM : ∀ g, g < q → (F.2.2.1 74 (o + g)).toInt = nm (o + g)) (hR : RWF F) : Pm Z_X11_takesName [.ref 69, .int (Int32.ofNat o), .int (Int32.ofNat q)] F (fun r F' => r = some (.int (b2i (decide (lkc nm o q (tok B n lim i) = 0)))) ∧ RSP F F' B n lim i (i + 1) (lkc nm o q (tok B n lim i)) ∧ (lkc nm o q (tok B n lim i) = 0 → F'.1 69 18 = oN (m_fst (fP nm o (tok B n lim i).v) q))) := by
  refine Pm.of fun N => ?_
  obtain ⟨Q, hQ⟩ : ∃ Q : Option Value → FW → Prop, Q = (fun r F' => r = some (.int (b2i (decide (lkc nm o q (tok B n lim i) = 0)))) ∧ RSP F F' B n lim i (i + 1) (lkc nm o q (tok B n lim i)) ∧ (lkc nm o q (tok B n lim i) = 0 → F'.1 69 18 = oN (m_fst (fP nm o (tok B n lim i).v) q))) := ⟨_, rfl⟩
  rw [← hQ]
  refine (show Pv (ab_T (L_X11_takesName Z_X11_looksAt Z_X11_next)) N 0 [some (.ref 69), some (.int (Int32.ofNat o)), some (.int (Int32.ofNat q))] [] F Q from ?_)
  refine Pv.aload rfl rfl ?_
  refine Pv.iload rfl rfl ?_
  refine Pv.iload rfl rfl ?_
  refine Pv.callV (as := [.ref 69, .int (Int32.ofNat o), .int (Int32.ofNat q)]) (rest := []) rfl rfl rfl (r_looksAt hG hT ho hq hM hR) ?_
  rintro _ G ⟨rfl, h1, h2⟩
  have gw := RLX.G h1.1 hG
  refine (show Pv _ _ 6 [some (.ref 69), some (.int (Int32.ofNat o)), some (.int (Int32.ofNat q))] [.int (b2i (decide (lkc nm o q (tok B n lim i) = 0)))] G Q from ?_)
  refine Pv.if0 rfl (fun c1 => ?_) (fun c1 => ?_)
  · skip
    replace c1 : decide (b2i (decide (lkc nm o q (tok B n lim i) = 0)) = 0) = false := by simpa using c1
    replace c1 := of_decide_eq_false c1
    replace c1 := b2n.mp c1
    have e0 : lkc nm o q (tok B n lim i) = 0 := of_decide_eq_true c1
    refine Pv.aload rfl rfl ?_
    refine Pv.callV (as := [.ref 69]) (rest := []) rfl rfl rfl (r_next gw (h1.2.1 e0).1) ?_
    rintro _ Gn ⟨rfl, xn, tn⟩
    have gn := RNX.G xn gw
    refine (show Pv _ _ 15 [some (.ref 69), some (.int (Int32.ofNat o)), some (.int (Int32.ofNat q))] [] Gn Q from ?_)
    refine Pv.lit rfl ?_
    exact Pv.zret rfl (by rw [hQ]; exact ⟨by rw [e0]; rfl, ⟨h1.1.tr (RLX.of xn), fun _ => ⟨tn, (xn.2.1 15 (by decide) (by decide) (by decide) (by decide) (by decide)).trans (h1.2.1 e0).2⟩, fun e => absurd e0 e⟩, fun _ => (xn.2.1 18 (by decide) (by decide) (by decide) (by decide) (by decide)).trans (h2 e0)⟩)
  · skip
    replace c1 : decide (b2i (decide (lkc nm o q (tok B n lim i) = 0)) = 0) = true := by simpa using c1
    replace c1 := of_decide_eq_true c1
    replace c1 := b2z.mp c1
    refine Pv.lit rfl ?_
    have e0 := of_decide_eq_false c1
    exact Pv.zret rfl (by rw [hQ]; exact ⟨by rw [decide_eq_false e0]; rfl, ⟨h1.1, fun e => absurd e e0, h1.2.2⟩, fun e => absurd e e0⟩)
end
-- 63.b83.rl.lean.txt
section
/-! ===== a line of a LOG: the reference ===== -/
/-- the line that is written down as the c-th: deed, then good, shore, number; or the man; or the days -/
def LIR (G : FW) (c d w x : Nat) : Prop := G.1 73 (4 * c) = Int32.ofNat d ∧ (d < 3 → G.1 73 (4 * c + 1) = Int32.ofNat (w / 2) ∧ G.1 73 (4 * c + 2) = Int32.ofNat (w % 2) ∧ G.1 73 (4 * c + 3) = Int32.ofNat x) ∧ (d = 3 → G.1 73 (4 * c + 1) = Int32.ofNat w) ∧ (d = 4 → G.1 73 (4 * c + 1) = Int32.ofNat x)
/-- what it changes -/
def RYX (c : Nat) (F G : FW) : Prop := FX (fun q => q = 69 ∨ q = 73) F G ∧ (∀ k, k ≠ 4 → k ≠ 11 → k ≠ 12 → k ≠ 13 → k ≠ 14 → k ≠ 15 → k ≠ 16 → k ≠ 18 → G.1 69 k = F.1 69 k) ∧ (∀ k, k ≠ 17 → G.2.2.1 69 k = F.2.2.1 69 k) ∧ ∀ k, k < 4 * c → G.1 73 k = F.1 73 k
theorem RYX.of {c : Nat} {F G : FW} (h : RLX F G) : RYX c F G := ⟨h.1.wd fun _ e => Or.inl e, h.2.1, h.2.2, fun k _ => h.1.1 73 k (by decide)⟩
theorem RYX.tr {c : Nat} {F G H : FW} (a : RYX c F G) (b : RYX c G H) : RYX c F H := ⟨a.1.tr b.1, fun k h1 h2 h3 h4 h5 h6 h7 h8 => (b.2.1 k h1 h2 h3 h4 h5 h6 h7 h8).trans (a.2.1 k h1 h2 h3 h4 h5 h6 h7 h8), fun k h => (b.2.2.1 k h).trans (a.2.2.1 k h), fun k h => (b.2.2.2 k h).trans (a.2.2.2 k h)⟩
theorem RYX.st {c : Nat} {F G : FW} {k : Nat} {v : Int32} (h : RYX c F G) (e : 4 * c ≤ k) : RYX c F (fp G 73 k v) := ⟨h.1.fp (Or.inr rfl), fun j h1 h2 h3 h4 h5 h6 h7 h8 => (fp_ne (Or.inl (by decide))).trans (h.2.1 j h1 h2 h3 h4 h5 h6 h7 h8), h.2.2.1, fun j hj => (fp_ne (Or.inr (by omega))).trans (h.2.2.2 j hj)⟩
theorem RYX.G {c : Nat} {F G : FW} (h : RYX c F G) (g : GW F) : GW G := g.fx h.1
theorem NTF.at73 {F : FW} {X : TT} {k : Nat} {v : Int32} (h : NTF F X) : NTF (fp F 73 k v) X := by
  have e : ∀ j, (fp F 73 k v).1 69 j = F.1 69 j := fun j => fp_ne (Or.inl (by decide))
  unfold NTF
  rw [e, e, e, e]
  exact h
theorem RTK.at73 {F : FW} {B : Nat → Int} {n lim i k : Nat} {v : Int32} (h : RTK F B n lim i) : RTK (fp F 73 k v) B n lim i :=
  ⟨(fp_ne (Or.inl (by decide))).trans h.1, (fp_ne (Or.inl (by decide))).trans h.2.1, (RBF_same fun _ => fp_ne (Or.inl (by decide))).trans h.2.2.1, h.2.2.2.1.at73, h.2.2.2.2⟩
/-- what comes of a line there -/
def LRP (F G : FW) (B : Nat → Int) (n lim c : Nat) (r : Option Value) (x : LL) : Prop := r = some (.int (ll_b x)) ∧ RYX c F G ∧ match x with
  | .inl y => RTK G B n lim y.2.2.2 ∧ G.1 69 15 = F.1 69 15 ∧ LIR G c y.1 y.2.1 y.2.2.1
  | .inr z => G.1 69 15 = z.1 ∧ (G.1 69 16).toInt = (tok B n lim z.2).pl
theorem LRP.mk_n {F G : FW} {B : Nat → Int} {n lim c j : Nat} {q : Int32} {x : LL} (e : x = ll_n q j) (h : RYX c F G) (h1 : G.1 69 15 = q) (h2 : (G.1 69 16).toInt = (tok B n lim j).pl) : LRP F G B n lim c (some (.int 0)) x := by
  rw [e]
  exact ⟨rfl, h, h1, h2⟩
theorem LRP.mk_y {F G : FW} {B : Nat → Int} {n lim c d w m j : Nat} {x : LL} (e : x = ll_y d w m j) (h : RYX c F G) (h1 : RTK G B n lim j) (h2 : G.1 69 15 = F.1 69 15) (h3 : LIR G c d w m) : LRP F G B n lim c (some (.int 1)) x := by
  rw [e]
  exact ⟨rfl, h, h1, h2, h3⟩
theorem lkc_y {nm : Nat → Int} {o q : Nat} {X : TT} (hq : q ≤ 8) (h : lkc nm o q X = 0) : X.k = 2 ∧ ∃ w, m_fst (fP nm o X.v) q = some w ∧ w < q := by
  unfold lkc at h
  by_cases c : X.k = 2
  · rw [if_pos c] at h
    refine ⟨c, ?_⟩
    cases e : m_fst (fP nm o X.v) q with
    | none =>
      rw [e] at h
      exact absurd h (by decide)
    | some w => exact ⟨w, rfl, (m_fst_lt e).1⟩
  · rw [if_neg c] at h
    exact absurd h (by decide)
theorem ll_lk {T : Nat → TT} {nm : Nat → Int} {tg tm c i : Nat} (ht : tm ≤ 8) (h1 : ¬ (72 ≤ (T i).k ∧ (T i).k ≤ 74)) (h2 : ¬ (T i).k = 76) (h : ¬ lkc nm 6 tm (T i) = 0) : ll T nm tg tm c i = ll_n (lkc nm 6 tm (T i)) i := by
  unfold ll
  rw [if_neg h1, if_neg h2]
  unfold lkc at h ⊢
  by_cases k : (T i).k = 2
  · rw [if_pos k] at h ⊢
    rw [if_pos k, fP_6] at *
    by_cases e : oN (m_fst (mP nm (T i).v) tm) = -1
    · rw [if_pos e, (oN_1 ht).mp e]
    · rw [if_neg e] at h
      exact absurd rfl h
  · rw [if_neg k, if_neg k]
end
-- 63.b84.rl2.lean.txt
section
theorem ll_deed_n {T : Nat → TT} {nm : Nat → Int} {tg d i : Nat} (ht : tg ≤ 8) (h : ¬ lkc nm 0 tg (T (i + 1)) = 0) : ll_deed T nm tg d i = ll_n (lkc nm 0 tg (T (i + 1))) (i + 1) := by
  unfold ll_deed tnW
  unfold lkc at h ⊢
  rw [fP_0] at h ⊢
  by_cases k : (T (i + 1)).k = 2
  · rw [if_pos k] at h
    rw [if_pos k, if_pos rfl, if_pos k]
    by_cases e : oN (m_fst (gP nm (T (i + 1)).v) tg) = -1
    · rw [if_pos e, (oN_1 ht).mp e]
    · rw [if_neg e] at h
      exact absurd rfl h
  · rw [if_neg k, if_neg k]
    exact if_neg (by decide)
end
-- 63.b84a.lean.txt
section
set_option maxRecDepth 100000 in
set_option maxHeartbeats 4000000 in
theorem r_logLine {F : FW} {B : Nat → Int} {n lim i : Nat} (hG : GW F) (hT : RTK F B n lim i) {E : St} {nm : Nat → Int} {c : Nat} (hE : XT F E) (h30 : F.1 69 30 = Int32.ofNat c) (hc : c ≤ 40) (hMg : ∀ g, g < t_g E → (F.2.2.1 74 (0 + g)).toInt = nm (0 + g)) (hMm : ∀ g, g < t_m E → (F.2.2.1 74 (6 + g)).toInt = nm (6 + g)) (hR : RWF F) : Pm Z_X11_logLine [.ref 69] F (fun r F' => LRP F F' B n lim c r (ll (tok B n lim) nm (t_g E) (t_m E) c i)) := by
  refine Pm.of fun N => ?_
  obtain ⟨Q, hQ⟩ : ∃ Q : Option Value → FW → Prop, Q = (fun r F' => LRP F F' B n lim c r (ll (tok B n lim) nm (t_g E) (t_m E) c i)) := ⟨_, rfl⟩
  rw [← hQ]
  have b3 := hE.mb
  have b5 := hE.gb
  refine (show Pv (ab_T (L_X11_logLine Z_X11_isWord Z_X11_looksAt Z_X11_bad Z_X11_next Z_X11_takes Z_X11_takesName)) N 0 [some (.ref 69), none, none] [] F Q from ?_)
  refine Pv.lit rfl ?_
  refine Pv.aload rfl rfl ?_
  refine Pv.getI (z := Int32.ofNat c) rfl rfl (h30) ?_
  refine Pv.bin (z := Int32.ofNat (4 * c)) rfl (i_mul 4 c) ?_
  refine Pv.istore (lo' := [some (.ref 69), some (.int (Int32.ofNat (4 * c))), none]) rfl rfl ?_
  refine Pv.aload rfl rfl ?_
  refine Pv.lit rfl ?_
  refine Pv.callVI (as := [.ref 69, .long 114827585545331]) (rest := []) (z := b2i (decide ((tok B n lim i).k = 64 + ((8 : Nat) : Int)))) rfl rfl rfl (r_isWord (j := 8) hT.2.2.2.1 (tok_wok _ _ _ _) (by decide) (by decide +kernel)) ?_
  refine Pv.if0 rfl (fun c1 => ?_) (fun c1 => ?_)
  · skip
    replace c1 := of_decide_eq_true c1
    replace c1 := b2z.mp c1
    refine Pv.aload rfl rfl ?_
    refine Pv.lit rfl ?_
    refine Pv.callVI (as := [.ref 69, .long 422541682035]) (rest := []) (z := b2i (decide ((tok B n lim i).k = 64 + ((9 : Nat) : Int)))) rfl rfl rfl (r_isWord (j := 9) hT.2.2.2.1 (tok_wok _ _ _ _) (by decide) (by decide +kernel)) ?_
    refine Pv.if0 rfl (fun c2 => ?_) (fun c2 => ?_)
    · skip
      replace c2 := of_decide_eq_true c2
      replace c2 := b2z.mp c2
      refine Pv.aload rfl rfl ?_
      refine Pv.lit rfl ?_
      refine Pv.callVI (as := [.ref 69, .long 131260432541043]) (rest := []) (z := b2i (decide ((tok B n lim i).k = 64 + ((10 : Nat) : Int)))) rfl rfl rfl (r_isWord (j := 10) hT.2.2.2.1 (tok_wok _ _ _ _) (by decide) (by decide +kernel)) ?_
      refine Pv.if0 rfl (fun c3 => ?_) (fun c3 => ?_)
      · skip
        replace c3 := of_decide_eq_true c3
        replace c3 := b2z.mp c3
        refine Pv.aload rfl rfl ?_
        refine Pv.lit rfl ?_
        refine Pv.callVI (as := [.ref 69, .long 6578553]) (rest := []) (z := b2i (decide ((tok B n lim i).k = 64 + ((12 : Nat) : Int)))) rfl rfl rfl (r_isWord (j := 12) hT.2.2.2.1 (tok_wok _ _ _ _) (by decide) (by decide +kernel)) ?_
        refine Pv.if0 rfl (fun c4 => ?_) (fun c4 => ?_)
        · skip
          replace c4 := of_decide_eq_true c4
          replace c4 := b2z.mp c4
          refine Pv.lit rfl ?_
          refine Pv.istore (lo' := [some (.ref 69), some (.int (Int32.ofNat (4 * c))), some (.int 3)]) rfl rfl ?_
          refine Pv.iload rfl rfl ?_
          refine Pv.lit rfl ?_
          refine Pv.icmp rfl (fun c5 => ?_) (fun c5 => ?_)
          · skip
            replace c5 : decide ((3 : Int32) = 3) = false := by simpa using c5
            replace c5 := mt (i_eq (a := 3) (b := 3) (by omega) (by omega)).mpr (of_decide_eq_false c5)
            omega
          · skip
            replace c5 : decide ((3 : Int32) = 3) = true := by simpa using c5
            replace c5 := (i_eq (a := 3) (b := 3) (by omega) (by omega)).mp (of_decide_eq_true c5)
            refine Pv.aload rfl rfl ?_
            refine Pv.lit rfl ?_
            refine Pv.aload rfl rfl ?_
            refine Pv.getR (v := .ref 71) rfl rfl (GW.at (a := 69) (k := 6) (b := 71) hG (by decide)) ?_
            refine Pv.lit rfl ?_
            refine Pv.ald (z := Int32.ofNat (t_m E)) rfl (hE.m) ?_
            refine Pv.callV (as := [.ref 69, .int 6, .int (Int32.ofNat (t_m E))]) (rest := []) rfl rfl rfl (r_looksAt (o := 6) (q := t_m E) hG hT (by omega) b3 hMm hR) ?_
            rintro _ G1 ⟨rfl, hs1, hv1⟩
            have gw1 := RLX.G hs1.1 hG
            refine (show Pv _ _ 82 [some (.ref 69), some (.int (Int32.ofNat (4 * c))), some (.int 3)] [.int (b2i (decide (lkc nm 6 (t_m E) (tok B n lim i) = 0)))] G1 Q from ?_)
            refine Pv.if0 rfl (fun c6 => ?_) (fun c6 => ?_)
            · skip
              replace c6 : decide (b2i (decide (lkc nm 6 (t_m E) (tok B n lim i) = 0)) = 0) = false := by simpa using c6
              replace c6 := of_decide_eq_false c6
              replace c6 := b2n.mp c6
              have e0 := of_decide_eq_true c6
              obtain ⟨k2, w, hw, hwl⟩ := lkc_y b3 e0
              have hv := hv1 e0
              rw [hw] at hv
              refine Pv.aload rfl rfl ?_
              refine Pv.getI (z := Int32.ofNat c) rfl rfl ((hs1.1.2.1 30 (by decide) (by decide) (by decide) (by decide) (by decide) (by decide) (by decide) (by decide)).trans h30) ?_
              refine Pv.lit rfl ?_
              refine Pv.icmp rfl (fun c7 => ?_) (fun c7 => ?_)
              · skip
                replace c7 : decide (Int32.ofNat c = 40) = false := by simpa using c7
                replace c7 := mt (i_eq (a := c) (b := 40) (by omega) (by omega)).mpr (of_decide_eq_false c7)
                refine Pv.aload rfl rfl ?_
                refine Pv.getR (v := .ref 73) rfl rfl (GW.at (a := 69) (k := 8) (b := 73) gw1 (by decide)) ?_
                refine Pv.iload rfl rfl ?_
                refine Pv.iload rfl rfl ?_
                refine Pv.astk (k := 4 * c) (z := 3) rfl (i_toNat (by omega)) (rfl) ?_
                refine Pv.aload rfl rfl ?_
                refine Pv.getR (v := .ref 73) rfl rfl (GW.at (a := 69) (k := 8) (b := 73) gw1 (by decide)) ?_
                refine Pv.iload rfl rfl ?_
                refine Pv.lit rfl ?_
                refine Pv.bin (z := Int32.ofNat ((4 * c) + 1)) rfl (i_add (4 * c) 1) ?_
                refine Pv.aload rfl rfl ?_
                refine Pv.getI (z := Int32.ofNat w) rfl rfl ((fp_ne (Or.inl (by decide))).trans (hv)) ?_
                refine Pv.astk (k := (4 * c) + 1) (z := Int32.ofNat w) rfl (i_toNat (by omega)) (rfl) ?_
                refine Pv.aload rfl rfl ?_
                refine Pv.callV (as := [.ref 69]) (rest := []) rfl rfl rfl (r_next (RYX.G (c := c) (RYX.st (RYX.st (RYX.of hs1.1) (by omega)) (by omega)) hG) (RTK.at73 (RTK.at73 ((hs1.2.1 e0).1)))) ?_
                rintro _ G8 ⟨rfl, xn9, tn10⟩
                have ry11 : RYX c F G8 := RYX.tr (RYX.st (RYX.st (RYX.of hs1.1) (by omega)) (by omega)) (RYX.of (RLX.of xn9))
                have ez12 : G8.1 69 15 = F.1 69 15 := (xn9.2.1 15 (by decide) (by decide) (by decide) (by decide) (by decide)).trans (((fp_ne (Or.inl (by decide))).trans ((fp_ne (Or.inl (by decide))).trans ((hs1.2.1 e0).2))))
                refine (show Pv _ _ 125 [some (.ref 69), some (.int (Int32.ofNat (4 * c))), some (.int 3)] [] G8 Q from ?_)
                refine Pv.iload rfl rfl ?_
                refine Pv.lit rfl ?_
                refine Pv.icmp rfl (fun c13 => ?_) (fun c13 => ?_)
                · skip
                  replace c13 : decide ((3 : Int32) = 3) = false := by simpa using c13
                  replace c13 := mt (i_eq (a := 3) (b := 3) (by omega) (by omega)).mpr (of_decide_eq_false c13)
                  omega
                · skip
                  replace c13 : decide ((3 : Int32) = 3) = true := by simpa using c13
                  replace c13 := (i_eq (a := 3) (b := 3) (by omega) (by omega)).mp (of_decide_eq_true c13)
                  refine Pv.aload rfl rfl ?_
                  refine Pv.lit rfl ?_
                  refine Pv.callVI (as := [.ref 69, .long 1684628851]) (rest := []) (z := b2i (decide ((tok B n lim (i + 1)).k = 64 + ((11 : Nat) : Int)))) rfl rfl rfl (r_isWord (j := 11) tn10.2.2.2.1 (tok_wok _ _ _ _) (by decide) (by decide +kernel)) ?_
                  refine Pv.if0 rfl (fun c14 => ?_) (fun c14 => ?_)
                  · skip
                    replace c14 : decide (b2i (decide ((tok B n lim (i + 1)).k = 64 + ((11 : Nat) : Int))) = 0) = false := by simpa using c14
                    replace c14 := of_decide_eq_false c14
                    replace c14 := b2n.mp c14
                    refine Pv.aload rfl rfl ?_
                    refine Pv.callV (as := [.ref 69]) (rest := []) rfl rfl rfl (r_next (RYX.G (c := c) ry11 hG) tn10) ?_
                    rintro _ G15 ⟨rfl, xn16, tn17⟩
                    have ry18 : RYX c F G15 := RYX.tr ry11 (RYX.of (RLX.of xn16))
                    have ez19 : G15.1 69 15 = F.1 69 15 := (xn16.2.1 15 (by decide) (by decide) (by decide) (by decide) (by decide)).trans (ez12)
                    refine (show Pv _ _ 150 [some (.ref 69), some (.int (Int32.ofNat (4 * c))), some (.int 3)] [] G15 Q from ?_)
                    refine Pv.lit rfl ?_
                    have g14 := of_decide_eq_false c1
                    have g28 := of_decide_eq_false c2
                    have g42 := of_decide_eq_false c3
                    have g56 := of_decide_eq_false c4
                    exact Pv.zret rfl (by rw [hQ]; exact LRP.mk_y (d := 3) (w := w) (m := 0) (by unfold ll; rw [if_neg (by omega), if_neg (by omega), if_pos k2, ← fP_6, hw]; show (if 40 ≤ c then ll_n 4 i else ll_death (tok B n lim) w i) = _; rw [if_neg (by omega)]; exact if_pos (of_decide_eq_true c14)) ry18 tn17 (ez19) ⟨(xn16.1.1 73 _ (by decide)).trans ((xn9.1.1 73 _ (by decide)).trans ((fp_ne (Or.inr (by omega))).trans (fp_eq))), fun h => absurd h (by decide), fun _ => (xn16.1.1 73 _ (by decide)).trans ((xn9.1.1 73 _ (by decide)).trans (fp_eq)), fun h => absurd h (by decide)⟩)
                  · skip
                    replace c14 : decide (b2i (decide ((tok B n lim (i + 1)).k = 64 + ((11 : Nat) : Int))) = 0) = true := by simpa using c14
                    replace c14 := of_decide_eq_true c14
                    replace c14 := b2z.mp c14
                    refine Pv.aload rfl rfl ?_
                    refine Pv.lit rfl ?_
                    refine Pv.callVI (as := [.ref 69, .int 1]) (rest := []) (z := 0) rfl rfl rfl (r_bad (c := 1) (RYX.G (c := c) ry11 hG)) ?_
                    have g14 := of_decide_eq_false c1
                    have g28 := of_decide_eq_false c2
                    have g42 := of_decide_eq_false c3
                    have g56 := of_decide_eq_false c4
                    exact Pv.zret rfl (by rw [hQ]; exact LRP.mk_n (by unfold ll; rw [if_neg (by omega), if_neg (by omega), if_pos k2, ← fP_6, hw]; show (if 40 ≤ c then ll_n 4 i else ll_death (tok B n lim) w i) = _; rw [if_neg (by omega)]; exact if_neg (fun e => (of_decide_eq_false c14) (by rw [e]; rfl))) (RYX.tr ry11 (RYX.of ((RLX.rf.fp (Or.inl rfl)).fp (Or.inr (Or.inl rfl))))) ((fp_ne (Or.inr (by decide))).trans fp_eq) ((congrArg Int32.toInt fp_eq).trans tn10.2.2.2.1.1))
              · skip
                replace c7 : decide (Int32.ofNat c = 40) = true := by simpa using c7
                replace c7 := (i_eq (a := c) (b := 40) (by omega) (by omega)).mp (of_decide_eq_true c7)
                refine Pv.aload rfl rfl ?_
                refine Pv.lit rfl ?_
                refine Pv.callVI (as := [.ref 69, .int 4]) (rest := []) (z := 0) rfl rfl rfl (r_bad (c := 4) (RYX.G (c := c) (RYX.of hs1.1) hG)) ?_
                have g14 := of_decide_eq_false c1
                have g28 := of_decide_eq_false c2
                have g42 := of_decide_eq_false c3
                have g56 := of_decide_eq_false c4
                exact Pv.zret rfl (by rw [hQ]; exact LRP.mk_n (by unfold ll; rw [if_neg (by omega), if_neg (by omega), if_pos k2, ← fP_6, hw]; show (if 40 ≤ c then ll_n 4 i else ll_death (tok B n lim) w i) = _; rw [if_pos (by omega)]) (RYX.tr (RYX.of hs1.1) (RYX.of ((RLX.rf.fp (Or.inl rfl)).fp (Or.inr (Or.inl rfl))))) ((fp_ne (Or.inr (by decide))).trans fp_eq) ((congrArg Int32.toInt fp_eq).trans (hs1.2.1 e0).1.2.2.2.1.1))
            · skip
              replace c6 : decide (b2i (decide (lkc nm 6 (t_m E) (tok B n lim i) = 0)) = 0) = true := by simpa using c6
              replace c6 := of_decide_eq_true c6
              replace c6 := b2z.mp c6
              refine Pv.lit rfl ?_
              have g14 := of_decide_eq_false c1
              have g28 := of_decide_eq_false c2
              have g42 := of_decide_eq_false c3
              have g56 := of_decide_eq_false c4
              have e0 := of_decide_eq_false c6
              exact Pv.zret rfl (by rw [hQ]; exact LRP.mk_n (ll_lk b3 (by omega) (by omega) e0) (RYX.of hs1.1) (hs1.2.2 e0).1 (hs1.2.2 e0).2)
        · skip
          replace c4 := of_decide_eq_false c4
          replace c4 := b2n.mp c4
          refine Pv.lit rfl ?_
          refine Pv.goto rfl ?_
          refine Pv.istore (lo' := [some (.ref 69), some (.int (Int32.ofNat (4 * c))), some (.int 4)]) rfl rfl ?_
          refine Pv.iload rfl rfl ?_
          refine Pv.lit rfl ?_
          refine Pv.icmp rfl (fun c20 => ?_) (fun c20 => ?_)
          · skip
            replace c20 : decide ((4 : Int32) = 3) = false := by simpa using c20
            replace c20 := mt (i_eq (a := 4) (b := 3) (by omega) (by omega)).mpr (of_decide_eq_false c20)
            refine Pv.aload rfl rfl ?_
            refine Pv.getI (z := Int32.ofNat c) rfl rfl (h30) ?_
            refine Pv.lit rfl ?_
            refine Pv.icmp rfl (fun c21 => ?_) (fun c21 => ?_)
            · skip
              replace c21 : decide (Int32.ofNat c = 40) = false := by simpa using c21
              replace c21 := mt (i_eq (a := c) (b := 40) (by omega) (by omega)).mpr (of_decide_eq_false c21)
              refine Pv.aload rfl rfl ?_
              refine Pv.getR (v := .ref 73) rfl rfl (GW.at (a := 69) (k := 8) (b := 73) hG (by decide)) ?_
              refine Pv.iload rfl rfl ?_
              refine Pv.iload rfl rfl ?_
              refine Pv.astk (k := 4 * c) (z := 4) rfl (i_toNat (by omega)) (rfl) ?_
              refine Pv.aload rfl rfl ?_
              refine Pv.getR (v := .ref 73) rfl rfl (GW.at (a := 69) (k := 8) (b := 73) hG (by decide)) ?_
              refine Pv.iload rfl rfl ?_
              refine Pv.lit rfl ?_
              refine Pv.bin (z := Int32.ofNat ((4 * c) + 1)) rfl (i_add (4 * c) 1) ?_
              refine Pv.aload rfl rfl ?_
              refine Pv.getI (z := F.1 69 18) rfl rfl (fp_ne (Or.inl (by decide))) ?_
              refine Pv.astk (k := (4 * c) + 1) (z := F.1 69 18) rfl (i_toNat (by omega)) (rfl) ?_
              refine Pv.aload rfl rfl ?_
              refine Pv.callV (as := [.ref 69]) (rest := []) rfl rfl rfl (r_next (RYX.G (c := c) (RYX.st (RYX.st (RYX.of RLX.rf) (by omega)) (by omega)) hG) (RTK.at73 (RTK.at73 hT))) ?_
              rintro _ G22 ⟨rfl, xn23, tn24⟩
              have ry25 : RYX c F G22 := RYX.tr (RYX.st (RYX.st (RYX.of RLX.rf) (by omega)) (by omega)) (RYX.of (RLX.of xn23))
              have ez26 : G22.1 69 15 = F.1 69 15 := (xn23.2.1 15 (by decide) (by decide) (by decide) (by decide) (by decide)).trans (((fp_ne (Or.inl (by decide))).trans ((fp_ne (Or.inl (by decide))).trans rfl)))
              refine (show Pv _ _ 125 [some (.ref 69), some (.int (Int32.ofNat (4 * c))), some (.int 4)] [] G22 Q from ?_)
              refine Pv.iload rfl rfl ?_
              refine Pv.lit rfl ?_
              refine Pv.icmp rfl (fun c27 => ?_) (fun c27 => ?_)
              · skip
                replace c27 : decide ((4 : Int32) = 3) = false := by simpa using c27
                replace c27 := mt (i_eq (a := 4) (b := 3) (by omega) (by omega)).mpr (of_decide_eq_false c27)
                refine Pv.iload rfl rfl ?_
                refine Pv.lit rfl ?_
                refine Pv.icmp rfl (fun c28 => ?_) (fun c28 => ?_)
                · skip
                  replace c28 : decide ((4 : Int32) = 4) = false := by simpa using c28
                  replace c28 := mt (i_eq (a := 4) (b := 4) (by omega) (by omega)).mpr (of_decide_eq_false c28)
                  omega
                · skip
                  replace c28 : decide ((4 : Int32) = 4) = true := by simpa using c28
                  replace c28 := (i_eq (a := 4) (b := 4) (by omega) (by omega)).mp (of_decide_eq_true c28)
                  refine Pv.aload rfl rfl ?_
                  refine Pv.lit rfl ?_
                  refine Pv.lit rfl ?_
                  refine Pv.callV (as := [.ref 69, .int 1, .int 60]) (rest := []) rfl rfl rfl (r_takes (RYX.G (c := c) ry25 hG) tn24 1 60) ?_
                  rintro _ G29 ⟨rfl, hs30x, hv31x⟩
                  have hs30 : RSP G22 G29 B n lim (i + 1) (i + 2) (tnN (tok B n lim (i + 1)) 1 60) := hs30x
                  have hv31 : (tnN (tok B n lim (i + 1)) 1 60 = 0 → (G29.1 69 18).toInt = (tok B n lim (i + 1)).v) := hv31x
                  have ry32 : RYX c F G29 := RYX.tr ry25 (RYX.of hs30.1)
                  refine (show Pv _ _ 164 [some (.ref 69), some (.int (Int32.ofNat (4 * c))), some (.int 4)] [.int (b2i (decide (tnN (tok B n lim (i + 1)) 1 60 = 0)))] G29 Q from ?_)
                  refine Pv.if0 rfl (fun c33 => ?_) (fun c33 => ?_)
                  · skip
                    replace c33 : decide (b2i (decide (tnN (tok B n lim (i + 1)) 1 60 = 0)) = 0) = false := by simpa using c33
                    replace c33 := of_decide_eq_false c33
                    replace c33 := b2n.mp c33
                    have ea := of_decide_eq_true c33
                    have ta := hs30.2.1 ea
                    have za := ta.2.trans (ez26)
                    have ka := tnN_k ea
                    have va := i_ofv (hv31 ea) (by omega)
                    refine Pv.aload rfl rfl ?_
                    refine Pv.getR (v := .ref 73) rfl rfl (GW.at (a := 69) (k := 8) (b := 73) (RYX.G ry32 hG) (by decide)) ?_
                    refine Pv.iload rfl rfl ?_
                    refine Pv.lit rfl ?_
                    refine Pv.bin (z := Int32.ofNat ((4 * c) + 1)) rfl (i_add (4 * c) 1) ?_
                    refine Pv.aload rfl rfl ?_
                    refine Pv.getI (z := Int32.ofNat ((tok B n lim (i + 1)).v.toNat)) rfl rfl (va) ?_
                    refine Pv.astk (k := (4 * c) + 1) (z := Int32.ofNat ((tok B n lim (i + 1)).v.toNat)) rfl (i_toNat (by omega)) (rfl) ?_
                    refine Pv.lit rfl ?_
                    have g14 := of_decide_eq_false c1
                    have g28 := of_decide_eq_false c2
                    have g42 := of_decide_eq_false c3
                    have g56 := of_decide_eq_true c4
                    exact Pv.zret rfl (by rw [hQ]; exact LRP.mk_y (d := 4) (w := 0) (m := (tok B n lim (i + 1)).v.toNat) (by unfold ll; rw [if_neg (by omega), if_pos (by omega), if_neg (by omega)]; exact if_pos ea) (RYX.st ry32 (by omega)) (RTK.at73 ta.1) (((fp_ne (Or.inl (by decide))).trans za)) ⟨(fp_ne (Or.inr (by omega))).trans ((hs30.1.1.1 73 _ (by decide)).trans ((xn23.1.1 73 _ (by decide)).trans ((fp_ne (Or.inr (by omega))).trans (fp_eq)))), fun h => absurd h (by decide), fun h => absurd h (by decide), fun _ => fp_eq⟩)
                  · skip
                    replace c33 : decide (b2i (decide (tnN (tok B n lim (i + 1)) 1 60 = 0)) = 0) = true := by simpa using c33
                    replace c33 := of_decide_eq_true c33
                    replace c33 := b2z.mp c33
                    refine Pv.lit rfl ?_
                    have g14 := of_decide_eq_false c1
                    have g28 := of_decide_eq_false c2
                    have g42 := of_decide_eq_false c3
                    have g56 := of_decide_eq_true c4
                    have en := of_decide_eq_false c33
                    exact Pv.zret rfl (by rw [hQ]; exact LRP.mk_n (by unfold ll; rw [if_neg (by omega), if_pos (by omega), if_neg (by omega)]; exact if_neg en) ry32 (hs30.2.2 en).1 (hs30.2.2 en).2)
              · skip
                replace c27 : decide ((4 : Int32) = 3) = true := by simpa using c27
                replace c27 := (i_eq (a := 4) (b := 3) (by omega) (by omega)).mp (of_decide_eq_true c27)
                omega
            · skip
              replace c21 : decide (Int32.ofNat c = 40) = true := by simpa using c21
              replace c21 := (i_eq (a := c) (b := 40) (by omega) (by omega)).mp (of_decide_eq_true c21)
              refine Pv.aload rfl rfl ?_
              refine Pv.lit rfl ?_
              refine Pv.callVI (as := [.ref 69, .int 4]) (rest := []) (z := 0) rfl rfl rfl (r_bad (c := 4) (RYX.G (c := c) (RYX.of RLX.rf) hG)) ?_
              have g14 := of_decide_eq_false c1
              have g28 := of_decide_eq_false c2
              have g42 := of_decide_eq_false c3
              have g56 := of_decide_eq_true c4
              exact Pv.zret rfl (by rw [hQ]; exact LRP.mk_n (by unfold ll; rw [if_neg (by omega), if_pos (by omega), if_pos (by omega)]) (RYX.tr (RYX.of RLX.rf) (RYX.of ((RLX.rf.fp (Or.inl rfl)).fp (Or.inr (Or.inl rfl))))) ((fp_ne (Or.inr (by decide))).trans fp_eq) ((congrArg Int32.toInt fp_eq).trans hT.2.2.2.1.1))
          · skip
            replace c20 : decide ((4 : Int32) = 3) = true := by simpa using c20
            replace c20 := (i_eq (a := 4) (b := 3) (by omega) (by omega)).mp (of_decide_eq_true c20)
            omega
      · skip
        replace c3 := of_decide_eq_false c3
        replace c3 := b2n.mp c3
        refine Pv.lit rfl ?_
        refine Pv.goto rfl ?_
        refine Pv.istore (lo' := [some (.ref 69), some (.int (Int32.ofNat (4 * c))), some (.int 2)]) rfl rfl ?_
        refine Pv.iload rfl rfl ?_
        refine Pv.lit rfl ?_
        refine Pv.icmp rfl (fun c34 => ?_) (fun c34 => ?_)
        · skip
          replace c34 : decide ((2 : Int32) = 3) = false := by simpa using c34
          replace c34 := mt (i_eq (a := 2) (b := 3) (by omega) (by omega)).mpr (of_decide_eq_false c34)
          refine Pv.aload rfl rfl ?_
          refine Pv.getI (z := Int32.ofNat c) rfl rfl (h30) ?_
          refine Pv.lit rfl ?_
          refine Pv.icmp rfl (fun c35 => ?_) (fun c35 => ?_)
          · skip
            replace c35 : decide (Int32.ofNat c = 40) = false := by simpa using c35
            replace c35 := mt (i_eq (a := c) (b := 40) (by omega) (by omega)).mpr (of_decide_eq_false c35)
            refine Pv.aload rfl rfl ?_
            refine Pv.getR (v := .ref 73) rfl rfl (GW.at (a := 69) (k := 8) (b := 73) hG (by decide)) ?_
            refine Pv.iload rfl rfl ?_
            refine Pv.iload rfl rfl ?_
            refine Pv.astk (k := 4 * c) (z := 2) rfl (i_toNat (by omega)) (rfl) ?_
            refine Pv.aload rfl rfl ?_
            refine Pv.getR (v := .ref 73) rfl rfl (GW.at (a := 69) (k := 8) (b := 73) hG (by decide)) ?_
            refine Pv.iload rfl rfl ?_
            refine Pv.lit rfl ?_
            refine Pv.bin (z := Int32.ofNat ((4 * c) + 1)) rfl (i_add (4 * c) 1) ?_
            refine Pv.aload rfl rfl ?_
            refine Pv.getI (z := F.1 69 18) rfl rfl (fp_ne (Or.inl (by decide))) ?_
            refine Pv.astk (k := (4 * c) + 1) (z := F.1 69 18) rfl (i_toNat (by omega)) (rfl) ?_
            refine Pv.aload rfl rfl ?_
            refine Pv.callV (as := [.ref 69]) (rest := []) rfl rfl rfl (r_next (RYX.G (c := c) (RYX.st (RYX.st (RYX.of RLX.rf) (by omega)) (by omega)) hG) (RTK.at73 (RTK.at73 hT))) ?_
            rintro _ G36 ⟨rfl, xn37, tn38⟩
            have ry39 : RYX c F G36 := RYX.tr (RYX.st (RYX.st (RYX.of RLX.rf) (by omega)) (by omega)) (RYX.of (RLX.of xn37))
            have ez40 : G36.1 69 15 = F.1 69 15 := (xn37.2.1 15 (by decide) (by decide) (by decide) (by decide) (by decide)).trans (((fp_ne (Or.inl (by decide))).trans ((fp_ne (Or.inl (by decide))).trans rfl)))
            refine (show Pv _ _ 125 [some (.ref 69), some (.int (Int32.ofNat (4 * c))), some (.int 2)] [] G36 Q from ?_)
            refine Pv.iload rfl rfl ?_
            refine Pv.lit rfl ?_
            refine Pv.icmp rfl (fun c41 => ?_) (fun c41 => ?_)
            · skip
              replace c41 : decide ((2 : Int32) = 3) = false := by simpa using c41
              replace c41 := mt (i_eq (a := 2) (b := 3) (by omega) (by omega)).mpr (of_decide_eq_false c41)
              refine Pv.iload rfl rfl ?_
              refine Pv.lit rfl ?_
              refine Pv.icmp rfl (fun c42 => ?_) (fun c42 => ?_)
              · skip
                replace c42 : decide ((2 : Int32) = 4) = false := by simpa using c42
                replace c42 := mt (i_eq (a := 2) (b := 4) (by omega) (by omega)).mpr (of_decide_eq_false c42)
                refine Pv.aload rfl rfl ?_
                refine Pv.lit rfl ?_
                refine Pv.aload rfl rfl ?_
                refine Pv.getR (v := .ref 71) rfl rfl (GW.at (a := 69) (k := 6) (b := 71) (RYX.G ry39 hG) (by decide)) ?_
                refine Pv.lit rfl ?_
                refine Pv.ald (z := Int32.ofNat (t_g E)) rfl ((xn37.1.1 71 _ (by decide)).trans ((fp_ne (Or.inl (by decide))).trans ((fp_ne (Or.inl (by decide))).trans (hE.g)))) ?_
                refine Pv.callV (as := [.ref 69, .int 0, .int (Int32.ofNat (t_g E))]) (rest := []) rfl rfl rfl (r_takesName (o := 0) (q := t_g E) (RYX.G (c := c) ry39 hG) tn38 (by omega) (by omega) (fun g hg => by rw [ry39.1.2.1 74 _ (by decide)]; exact hMg g hg) (fun j hj => by rw [ry39.1.2.1 75 j (by decide)]; exact hR j hj)) ?_
                rintro _ G43 ⟨rfl, hs44x, hv45x⟩
                have hs44 : RSP G36 G43 B n lim (i + 1) (i + 2) (lkc nm 0 (t_g E) (tok B n lim (i + 1))) := hs44x
                have hv45 : (lkc nm 0 (t_g E) (tok B n lim (i + 1)) = 0 → G43.1 69 18 = oN (m_fst (fP nm 0 (tok B n lim (i + 1)).v) (t_g E))) := hv45x
                have ry46 : RYX c F G43 := RYX.tr ry39 (RYX.of hs44.1)
                refine (show Pv _ _ 194 [some (.ref 69), some (.int (Int32.ofNat (4 * c))), some (.int 2)] [.int (b2i (decide (lkc nm 0 (t_g E) (tok B n lim (i + 1)) = 0)))] G43 Q from ?_)
                refine Pv.if0 rfl (fun c47 => ?_) (fun c47 => ?_)
                · skip
                  replace c47 : decide (b2i (decide (lkc nm 0 (t_g E) (tok B n lim (i + 1)) = 0)) = 0) = false := by simpa using c47
                  replace c47 := of_decide_eq_false c47
                  replace c47 := b2n.mp c47
                  have en := of_decide_eq_true c47
                  have tn := hs44.2.1 en
                  have zn := tn.2.trans (ez40)
                  obtain ⟨kn, g, hg, hgl⟩ := lkc_y (by omega) en
                  have vn := hv45 en
                  rw [hg] at vn
                  rw [fP_0] at hg
                  have hw : tnW (tok B n lim (i + 1)) = 0 := if_pos kn
                  refine Pv.aload rfl rfl ?_
                  refine Pv.getR (v := .ref 73) rfl rfl (GW.at (a := 69) (k := 8) (b := 73) (RYX.G ry46 hG) (by decide)) ?_
                  refine Pv.iload rfl rfl ?_
                  refine Pv.lit rfl ?_
                  refine Pv.bin (z := Int32.ofNat ((4 * c) + 1)) rfl (i_add (4 * c) 1) ?_
                  refine Pv.aload rfl rfl ?_
                  refine Pv.getI (z := Int32.ofNat g) rfl rfl (vn) ?_
                  refine Pv.astk (k := (4 * c) + 1) (z := Int32.ofNat g) rfl (i_toNat (by omega)) (rfl) ?_
                  refine Pv.aload rfl rfl ?_
                  refine Pv.lit rfl ?_
                  refine Pv.lit rfl ?_
                  refine Pv.callV (as := [.ref 69, .int 0, .int 1]) (rest := []) rfl rfl rfl (r_takes (RYX.G (c := c) (RYX.st ry46 (by omega)) hG) (RTK.at73 tn.1) 0 1) ?_
                  rintro _ G48 ⟨rfl, hs49x, hv50x⟩
                  have hs49 : RSP (fp G43 73 ((4 * c) + 1) (Int32.ofNat g)) G48 B n lim (i + 2) (i + 3) (tnN (tok B n lim (i + 2)) 0 1) := hs49x
                  have hv50 : (tnN (tok B n lim (i + 2)) 0 1 = 0 → (G48.1 69 18).toInt = (tok B n lim (i + 2)).v) := hv50x
                  have ry51 : RYX c F G48 := RYX.tr (RYX.st ry46 (by omega)) (RYX.of hs49.1)
                  refine (show Pv _ _ 217 [some (.ref 69), some (.int (Int32.ofNat (4 * c))), some (.int 2)] [.int (b2i (decide (tnN (tok B n lim (i + 2)) 0 1 = 0)))] G48 Q from ?_)
                  refine Pv.if0 rfl (fun c52 => ?_) (fun c52 => ?_)
                  · skip
                    replace c52 : decide (b2i (decide (tnN (tok B n lim (i + 2)) 0 1 = 0)) = 0) = false := by simpa using c52
                    replace c52 := of_decide_eq_false c52
                    replace c52 := b2n.mp c52
                    have eb := of_decide_eq_true c52
                    have tb := hs49.2.1 eb
                    have zb := tb.2.trans (((fp_ne (Or.inl (by decide))).trans zn))
                    have kb := tnN_k eb
                    have vb := i_ofv (hv50 eb) (by omega)
                    refine Pv.aload rfl rfl ?_
                    refine Pv.getR (v := .ref 73) rfl rfl (GW.at (a := 69) (k := 8) (b := 73) (RYX.G ry51 hG) (by decide)) ?_
                    refine Pv.iload rfl rfl ?_
                    refine Pv.lit rfl ?_
                    refine Pv.bin (z := Int32.ofNat ((4 * c) + 2)) rfl (i_add (4 * c) 2) ?_
                    refine Pv.aload rfl rfl ?_
                    refine Pv.getI (z := Int32.ofNat ((tok B n lim (i + 2)).v.toNat)) rfl rfl (vb) ?_
                    refine Pv.astk (k := (4 * c) + 2) (z := Int32.ofNat ((tok B n lim (i + 2)).v.toNat)) rfl (i_toNat (by omega)) (rfl) ?_
                    refine Pv.aload rfl rfl ?_
                    refine Pv.lit rfl ?_
                    refine Pv.lit rfl ?_
                    refine Pv.callV (as := [.ref 69, .int 1, .int 250]) (rest := []) rfl rfl rfl (r_takes (RYX.G (c := c) (RYX.st ry51 (by omega)) hG) (RTK.at73 tb.1) 1 250) ?_
                    rintro _ G53 ⟨rfl, hs54x, hv55x⟩
                    have hs54 : RSP (fp G48 73 ((4 * c) + 2) (Int32.ofNat ((tok B n lim (i + 2)).v.toNat))) G53 B n lim (i + 3) (i + 4) (tnN (tok B n lim (i + 3)) 1 250) := hs54x
                    have hv55 : (tnN (tok B n lim (i + 3)) 1 250 = 0 → (G53.1 69 18).toInt = (tok B n lim (i + 3)).v) := hv55x
                    have ry56 : RYX c F G53 := RYX.tr (RYX.st ry51 (by omega)) (RYX.of hs54.1)
                    refine (show Pv _ _ 242 [some (.ref 69), some (.int (Int32.ofNat (4 * c))), some (.int 2)] [.int (b2i (decide (tnN (tok B n lim (i + 3)) 1 250 = 0)))] G53 Q from ?_)
                    refine Pv.if0 rfl (fun c57 => ?_) (fun c57 => ?_)
                    · skip
                      replace c57 : decide (b2i (decide (tnN (tok B n lim (i + 3)) 1 250 = 0)) = 0) = false := by simpa using c57
                      replace c57 := of_decide_eq_false c57
                      replace c57 := b2n.mp c57
                      have ec := of_decide_eq_true c57
                      have tc := hs54.2.1 ec
                      have zc := tc.2.trans (((fp_ne (Or.inl (by decide))).trans zb))
                      have kc := tnN_k ec
                      have vc := i_ofv (hv55 ec) (by omega)
                      refine Pv.aload rfl rfl ?_
                      refine Pv.getR (v := .ref 73) rfl rfl (GW.at (a := 69) (k := 8) (b := 73) (RYX.G ry56 hG) (by decide)) ?_
                      refine Pv.iload rfl rfl ?_
                      refine Pv.lit rfl ?_
                      refine Pv.bin (z := Int32.ofNat ((4 * c) + 3)) rfl (i_add (4 * c) 3) ?_
                      refine Pv.aload rfl rfl ?_
                      refine Pv.getI (z := Int32.ofNat ((tok B n lim (i + 3)).v.toNat)) rfl rfl (vc) ?_
                      refine Pv.astk (k := (4 * c) + 3) (z := Int32.ofNat ((tok B n lim (i + 3)).v.toNat)) rfl (i_toNat (by omega)) (rfl) ?_
                      refine Pv.lit rfl ?_
                      have g14 := of_decide_eq_false c1
                      have g28 := of_decide_eq_false c2
                      have g42 := of_decide_eq_true c3
                      exact Pv.zret rfl (by rw [hQ]; exact LRP.mk_y (d := 2) (w := 2 * g + (tok B n lim (i + 2)).v.toNat) (m := (tok B n lim (i + 3)).v.toNat) (by unfold ll; rw [if_pos ⟨by omega, by omega⟩, if_neg (by omega), show ((tok B n lim i).k - 72).toNat = 2 by omega]; unfold ll_deed; rw [if_pos hw, hg]; exact (if_pos eb).trans (if_pos ec)) (RYX.st ry56 (by omega)) (RTK.at73 tc.1) (((fp_ne (Or.inl (by decide))).trans zc)) ⟨(fp_ne (Or.inr (by omega))).trans ((hs54.1.1.1 73 _ (by decide)).trans ((fp_ne (Or.inr (by omega))).trans ((hs49.1.1.1 73 _ (by decide)).trans ((fp_ne (Or.inr (by omega))).trans ((hs44.1.1.1 73 _ (by decide)).trans ((xn37.1.1 73 _ (by decide)).trans ((fp_ne (Or.inr (by omega))).trans (fp_eq)))))))), fun _ => ⟨by rw [show (2 * g + (tok B n lim (i + 2)).v.toNat) / 2 = g by omega]; exact (fp_ne (Or.inr (by omega))).trans ((hs54.1.1.1 73 _ (by decide)).trans ((fp_ne (Or.inr (by omega))).trans ((hs49.1.1.1 73 _ (by decide)).trans (fp_eq)))), by rw [show (2 * g + (tok B n lim (i + 2)).v.toNat) % 2 = (tok B n lim (i + 2)).v.toNat by omega]; exact (fp_ne (Or.inr (by omega))).trans ((hs54.1.1.1 73 _ (by decide)).trans (fp_eq)), fp_eq⟩, fun h => absurd h (by decide), fun h => absurd h (by decide)⟩)
                    · skip
                      replace c57 : decide (b2i (decide (tnN (tok B n lim (i + 3)) 1 250 = 0)) = 0) = true := by simpa using c57
                      replace c57 := of_decide_eq_true c57
                      replace c57 := b2z.mp c57
                      refine Pv.lit rfl ?_
                      have g14 := of_decide_eq_false c1
                      have g28 := of_decide_eq_false c2
                      have g42 := of_decide_eq_true c3
                      have en := of_decide_eq_false c57
                      exact Pv.zret rfl (by rw [hQ]; exact LRP.mk_n (by unfold ll; rw [if_pos ⟨by omega, by omega⟩, if_neg (by omega)]; unfold ll_deed; rw [if_pos hw, hg]; exact (if_pos eb).trans (if_neg en)) ry56 (hs54.2.2 en).1 (hs54.2.2 en).2)
                  · skip
                    replace c52 : decide (b2i (decide (tnN (tok B n lim (i + 2)) 0 1 = 0)) = 0) = true := by simpa using c52
                    replace c52 := of_decide_eq_true c52
                    replace c52 := b2z.mp c52
                    refine Pv.lit rfl ?_
                    have g14 := of_decide_eq_false c1
                    have g28 := of_decide_eq_false c2
                    have g42 := of_decide_eq_true c3
                    have en := of_decide_eq_false c52
                    exact Pv.zret rfl (by rw [hQ]; exact LRP.mk_n (by unfold ll; rw [if_pos ⟨by omega, by omega⟩, if_neg (by omega)]; unfold ll_deed; rw [if_pos hw, hg]; exact if_neg en) ry51 (hs49.2.2 en).1 (hs49.2.2 en).2)
                · skip
                  replace c47 : decide (b2i (decide (lkc nm 0 (t_g E) (tok B n lim (i + 1)) = 0)) = 0) = true := by simpa using c47
                  replace c47 := of_decide_eq_true c47
                  replace c47 := b2z.mp c47
                  refine Pv.lit rfl ?_
                  have g14 := of_decide_eq_false c1
                  have g28 := of_decide_eq_false c2
                  have g42 := of_decide_eq_true c3
                  have en := of_decide_eq_false c47
                  exact Pv.zret rfl (by rw [hQ]; exact LRP.mk_n (by unfold ll; rw [if_pos ⟨by omega, by omega⟩, if_neg (by omega)]; exact ll_deed_n (by omega) en) ry46 (hs44.2.2 en).1 (hs44.2.2 en).2)
              · skip
                replace c42 : decide ((2 : Int32) = 4) = true := by simpa using c42
                replace c42 := (i_eq (a := 2) (b := 4) (by omega) (by omega)).mp (of_decide_eq_true c42)
                omega
            · skip
              replace c41 : decide ((2 : Int32) = 3) = true := by simpa using c41
              replace c41 := (i_eq (a := 2) (b := 3) (by omega) (by omega)).mp (of_decide_eq_true c41)
              omega
          · skip
            replace c35 : decide (Int32.ofNat c = 40) = true := by simpa using c35
            replace c35 := (i_eq (a := c) (b := 40) (by omega) (by omega)).mp (of_decide_eq_true c35)
            refine Pv.aload rfl rfl ?_
            refine Pv.lit rfl ?_
            refine Pv.callVI (as := [.ref 69, .int 4]) (rest := []) (z := 0) rfl rfl rfl (r_bad (c := 4) (RYX.G (c := c) (RYX.of RLX.rf) hG)) ?_
            have g14 := of_decide_eq_false c1
            have g28 := of_decide_eq_false c2
            have g42 := of_decide_eq_true c3
            exact Pv.zret rfl (by rw [hQ]; exact LRP.mk_n (by unfold ll; rw [if_pos ⟨by omega, by omega⟩, if_pos (by omega)]) (RYX.tr (RYX.of RLX.rf) (RYX.of ((RLX.rf.fp (Or.inl rfl)).fp (Or.inr (Or.inl rfl))))) ((fp_ne (Or.inr (by decide))).trans fp_eq) ((congrArg Int32.toInt fp_eq).trans hT.2.2.2.1.1))
        · skip
          replace c34 : decide ((2 : Int32) = 3) = true := by simpa using c34
          replace c34 := (i_eq (a := 2) (b := 3) (by omega) (by omega)).mp (of_decide_eq_true c34)
          omega
    · skip
      replace c2 := of_decide_eq_false c2
      replace c2 := b2n.mp c2
      refine Pv.lit rfl ?_
      refine Pv.goto rfl ?_
      refine Pv.istore (lo' := [some (.ref 69), some (.int (Int32.ofNat (4 * c))), some (.int 1)]) rfl rfl ?_
      refine Pv.iload rfl rfl ?_
      refine Pv.lit rfl ?_
      refine Pv.icmp rfl (fun c58 => ?_) (fun c58 => ?_)
      · skip
        replace c58 : decide ((1 : Int32) = 3) = false := by simpa using c58
        replace c58 := mt (i_eq (a := 1) (b := 3) (by omega) (by omega)).mpr (of_decide_eq_false c58)
        refine Pv.aload rfl rfl ?_
        refine Pv.getI (z := Int32.ofNat c) rfl rfl (h30) ?_
        refine Pv.lit rfl ?_
        refine Pv.icmp rfl (fun c59 => ?_) (fun c59 => ?_)
        · skip
          replace c59 : decide (Int32.ofNat c = 40) = false := by simpa using c59
          replace c59 := mt (i_eq (a := c) (b := 40) (by omega) (by omega)).mpr (of_decide_eq_false c59)
          refine Pv.aload rfl rfl ?_
          refine Pv.getR (v := .ref 73) rfl rfl (GW.at (a := 69) (k := 8) (b := 73) hG (by decide)) ?_
          refine Pv.iload rfl rfl ?_
          refine Pv.iload rfl rfl ?_
          refine Pv.astk (k := 4 * c) (z := 1) rfl (i_toNat (by omega)) (rfl) ?_
          refine Pv.aload rfl rfl ?_
          refine Pv.getR (v := .ref 73) rfl rfl (GW.at (a := 69) (k := 8) (b := 73) hG (by decide)) ?_
          refine Pv.iload rfl rfl ?_
          refine Pv.lit rfl ?_
          refine Pv.bin (z := Int32.ofNat ((4 * c) + 1)) rfl (i_add (4 * c) 1) ?_
          refine Pv.aload rfl rfl ?_
          refine Pv.getI (z := F.1 69 18) rfl rfl (fp_ne (Or.inl (by decide))) ?_
          refine Pv.astk (k := (4 * c) + 1) (z := F.1 69 18) rfl (i_toNat (by omega)) (rfl) ?_
          refine Pv.aload rfl rfl ?_
          refine Pv.callV (as := [.ref 69]) (rest := []) rfl rfl rfl (r_next (RYX.G (c := c) (RYX.st (RYX.st (RYX.of RLX.rf) (by omega)) (by omega)) hG) (RTK.at73 (RTK.at73 hT))) ?_
          rintro _ G60 ⟨rfl, xn61, tn62⟩
          have ry63 : RYX c F G60 := RYX.tr (RYX.st (RYX.st (RYX.of RLX.rf) (by omega)) (by omega)) (RYX.of (RLX.of xn61))
          have ez64 : G60.1 69 15 = F.1 69 15 := (xn61.2.1 15 (by decide) (by decide) (by decide) (by decide) (by decide)).trans (((fp_ne (Or.inl (by decide))).trans ((fp_ne (Or.inl (by decide))).trans rfl)))
          refine (show Pv _ _ 125 [some (.ref 69), some (.int (Int32.ofNat (4 * c))), some (.int 1)] [] G60 Q from ?_)
          refine Pv.iload rfl rfl ?_
          refine Pv.lit rfl ?_
          refine Pv.icmp rfl (fun c65 => ?_) (fun c65 => ?_)
          · skip
            replace c65 : decide ((1 : Int32) = 3) = false := by simpa using c65
            replace c65 := mt (i_eq (a := 1) (b := 3) (by omega) (by omega)).mpr (of_decide_eq_false c65)
            refine Pv.iload rfl rfl ?_
            refine Pv.lit rfl ?_
            refine Pv.icmp rfl (fun c66 => ?_) (fun c66 => ?_)
            · skip
              replace c66 : decide ((1 : Int32) = 4) = false := by simpa using c66
              replace c66 := mt (i_eq (a := 1) (b := 4) (by omega) (by omega)).mpr (of_decide_eq_false c66)
              refine Pv.aload rfl rfl ?_
              refine Pv.lit rfl ?_
              refine Pv.aload rfl rfl ?_
              refine Pv.getR (v := .ref 71) rfl rfl (GW.at (a := 69) (k := 6) (b := 71) (RYX.G ry63 hG) (by decide)) ?_
              refine Pv.lit rfl ?_
              refine Pv.ald (z := Int32.ofNat (t_g E)) rfl ((xn61.1.1 71 _ (by decide)).trans ((fp_ne (Or.inl (by decide))).trans ((fp_ne (Or.inl (by decide))).trans (hE.g)))) ?_
              refine Pv.callV (as := [.ref 69, .int 0, .int (Int32.ofNat (t_g E))]) (rest := []) rfl rfl rfl (r_takesName (o := 0) (q := t_g E) (RYX.G (c := c) ry63 hG) tn62 (by omega) (by omega) (fun g hg => by rw [ry63.1.2.1 74 _ (by decide)]; exact hMg g hg) (fun j hj => by rw [ry63.1.2.1 75 j (by decide)]; exact hR j hj)) ?_
              rintro _ G67 ⟨rfl, hs68x, hv69x⟩
              have hs68 : RSP G60 G67 B n lim (i + 1) (i + 2) (lkc nm 0 (t_g E) (tok B n lim (i + 1))) := hs68x
              have hv69 : (lkc nm 0 (t_g E) (tok B n lim (i + 1)) = 0 → G67.1 69 18 = oN (m_fst (fP nm 0 (tok B n lim (i + 1)).v) (t_g E))) := hv69x
              have ry70 : RYX c F G67 := RYX.tr ry63 (RYX.of hs68.1)
              refine (show Pv _ _ 194 [some (.ref 69), some (.int (Int32.ofNat (4 * c))), some (.int 1)] [.int (b2i (decide (lkc nm 0 (t_g E) (tok B n lim (i + 1)) = 0)))] G67 Q from ?_)
              refine Pv.if0 rfl (fun c71 => ?_) (fun c71 => ?_)
              · skip
                replace c71 : decide (b2i (decide (lkc nm 0 (t_g E) (tok B n lim (i + 1)) = 0)) = 0) = false := by simpa using c71
                replace c71 := of_decide_eq_false c71
                replace c71 := b2n.mp c71
                have en := of_decide_eq_true c71
                have tn := hs68.2.1 en
                have zn := tn.2.trans (ez64)
                obtain ⟨kn, g, hg, hgl⟩ := lkc_y (by omega) en
                have vn := hv69 en
                rw [hg] at vn
                rw [fP_0] at hg
                have hw : tnW (tok B n lim (i + 1)) = 0 := if_pos kn
                refine Pv.aload rfl rfl ?_
                refine Pv.getR (v := .ref 73) rfl rfl (GW.at (a := 69) (k := 8) (b := 73) (RYX.G ry70 hG) (by decide)) ?_
                refine Pv.iload rfl rfl ?_
                refine Pv.lit rfl ?_
                refine Pv.bin (z := Int32.ofNat ((4 * c) + 1)) rfl (i_add (4 * c) 1) ?_
                refine Pv.aload rfl rfl ?_
                refine Pv.getI (z := Int32.ofNat g) rfl rfl (vn) ?_
                refine Pv.astk (k := (4 * c) + 1) (z := Int32.ofNat g) rfl (i_toNat (by omega)) (rfl) ?_
                refine Pv.aload rfl rfl ?_
                refine Pv.lit rfl ?_
                refine Pv.lit rfl ?_
                refine Pv.callV (as := [.ref 69, .int 0, .int 1]) (rest := []) rfl rfl rfl (r_takes (RYX.G (c := c) (RYX.st ry70 (by omega)) hG) (RTK.at73 tn.1) 0 1) ?_
                rintro _ G72 ⟨rfl, hs73x, hv74x⟩
                have hs73 : RSP (fp G67 73 ((4 * c) + 1) (Int32.ofNat g)) G72 B n lim (i + 2) (i + 3) (tnN (tok B n lim (i + 2)) 0 1) := hs73x
                have hv74 : (tnN (tok B n lim (i + 2)) 0 1 = 0 → (G72.1 69 18).toInt = (tok B n lim (i + 2)).v) := hv74x
                have ry75 : RYX c F G72 := RYX.tr (RYX.st ry70 (by omega)) (RYX.of hs73.1)
                refine (show Pv _ _ 217 [some (.ref 69), some (.int (Int32.ofNat (4 * c))), some (.int 1)] [.int (b2i (decide (tnN (tok B n lim (i + 2)) 0 1 = 0)))] G72 Q from ?_)
                refine Pv.if0 rfl (fun c76 => ?_) (fun c76 => ?_)
                · skip
                  replace c76 : decide (b2i (decide (tnN (tok B n lim (i + 2)) 0 1 = 0)) = 0) = false := by simpa using c76
                  replace c76 := of_decide_eq_false c76
                  replace c76 := b2n.mp c76
                  have eb := of_decide_eq_true c76
                  have tb := hs73.2.1 eb
                  have zb := tb.2.trans (((fp_ne (Or.inl (by decide))).trans zn))
                  have kb := tnN_k eb
                  have vb := i_ofv (hv74 eb) (by omega)
                  refine Pv.aload rfl rfl ?_
                  refine Pv.getR (v := .ref 73) rfl rfl (GW.at (a := 69) (k := 8) (b := 73) (RYX.G ry75 hG) (by decide)) ?_
                  refine Pv.iload rfl rfl ?_
                  refine Pv.lit rfl ?_
                  refine Pv.bin (z := Int32.ofNat ((4 * c) + 2)) rfl (i_add (4 * c) 2) ?_
                  refine Pv.aload rfl rfl ?_
                  refine Pv.getI (z := Int32.ofNat ((tok B n lim (i + 2)).v.toNat)) rfl rfl (vb) ?_
                  refine Pv.astk (k := (4 * c) + 2) (z := Int32.ofNat ((tok B n lim (i + 2)).v.toNat)) rfl (i_toNat (by omega)) (rfl) ?_
                  refine Pv.aload rfl rfl ?_
                  refine Pv.lit rfl ?_
                  refine Pv.lit rfl ?_
                  refine Pv.callV (as := [.ref 69, .int 1, .int 250]) (rest := []) rfl rfl rfl (r_takes (RYX.G (c := c) (RYX.st ry75 (by omega)) hG) (RTK.at73 tb.1) 1 250) ?_
                  rintro _ G77 ⟨rfl, hs78x, hv79x⟩
                  have hs78 : RSP (fp G72 73 ((4 * c) + 2) (Int32.ofNat ((tok B n lim (i + 2)).v.toNat))) G77 B n lim (i + 3) (i + 4) (tnN (tok B n lim (i + 3)) 1 250) := hs78x
                  have hv79 : (tnN (tok B n lim (i + 3)) 1 250 = 0 → (G77.1 69 18).toInt = (tok B n lim (i + 3)).v) := hv79x
                  have ry80 : RYX c F G77 := RYX.tr (RYX.st ry75 (by omega)) (RYX.of hs78.1)
                  refine (show Pv _ _ 242 [some (.ref 69), some (.int (Int32.ofNat (4 * c))), some (.int 1)] [.int (b2i (decide (tnN (tok B n lim (i + 3)) 1 250 = 0)))] G77 Q from ?_)
                  refine Pv.if0 rfl (fun c81 => ?_) (fun c81 => ?_)
                  · skip
                    replace c81 : decide (b2i (decide (tnN (tok B n lim (i + 3)) 1 250 = 0)) = 0) = false := by simpa using c81
                    replace c81 := of_decide_eq_false c81
                    replace c81 := b2n.mp c81
                    have ec := of_decide_eq_true c81
                    have tc := hs78.2.1 ec
                    have zc := tc.2.trans (((fp_ne (Or.inl (by decide))).trans zb))
                    have kc := tnN_k ec
                    have vc := i_ofv (hv79 ec) (by omega)
                    refine Pv.aload rfl rfl ?_
                    refine Pv.getR (v := .ref 73) rfl rfl (GW.at (a := 69) (k := 8) (b := 73) (RYX.G ry80 hG) (by decide)) ?_
                    refine Pv.iload rfl rfl ?_
                    refine Pv.lit rfl ?_
                    refine Pv.bin (z := Int32.ofNat ((4 * c) + 3)) rfl (i_add (4 * c) 3) ?_
                    refine Pv.aload rfl rfl ?_
                    refine Pv.getI (z := Int32.ofNat ((tok B n lim (i + 3)).v.toNat)) rfl rfl (vc) ?_
                    refine Pv.astk (k := (4 * c) + 3) (z := Int32.ofNat ((tok B n lim (i + 3)).v.toNat)) rfl (i_toNat (by omega)) (rfl) ?_
                    refine Pv.lit rfl ?_
                    have g14 := of_decide_eq_false c1
                    have g28 := of_decide_eq_true c2
                    exact Pv.zret rfl (by rw [hQ]; exact LRP.mk_y (d := 1) (w := 2 * g + (tok B n lim (i + 2)).v.toNat) (m := (tok B n lim (i + 3)).v.toNat) (by unfold ll; rw [if_pos ⟨by omega, by omega⟩, if_neg (by omega), show ((tok B n lim i).k - 72).toNat = 1 by omega]; unfold ll_deed; rw [if_pos hw, hg]; exact (if_pos eb).trans (if_pos ec)) (RYX.st ry80 (by omega)) (RTK.at73 tc.1) (((fp_ne (Or.inl (by decide))).trans zc)) ⟨(fp_ne (Or.inr (by omega))).trans ((hs78.1.1.1 73 _ (by decide)).trans ((fp_ne (Or.inr (by omega))).trans ((hs73.1.1.1 73 _ (by decide)).trans ((fp_ne (Or.inr (by omega))).trans ((hs68.1.1.1 73 _ (by decide)).trans ((xn61.1.1 73 _ (by decide)).trans ((fp_ne (Or.inr (by omega))).trans (fp_eq)))))))), fun _ => ⟨by rw [show (2 * g + (tok B n lim (i + 2)).v.toNat) / 2 = g by omega]; exact (fp_ne (Or.inr (by omega))).trans ((hs78.1.1.1 73 _ (by decide)).trans ((fp_ne (Or.inr (by omega))).trans ((hs73.1.1.1 73 _ (by decide)).trans (fp_eq)))), by rw [show (2 * g + (tok B n lim (i + 2)).v.toNat) % 2 = (tok B n lim (i + 2)).v.toNat by omega]; exact (fp_ne (Or.inr (by omega))).trans ((hs78.1.1.1 73 _ (by decide)).trans (fp_eq)), fp_eq⟩, fun h => absurd h (by decide), fun h => absurd h (by decide)⟩)
                  · skip
                    replace c81 : decide (b2i (decide (tnN (tok B n lim (i + 3)) 1 250 = 0)) = 0) = true := by simpa using c81
                    replace c81 := of_decide_eq_true c81
                    replace c81 := b2z.mp c81
                    refine Pv.lit rfl ?_
                    have g14 := of_decide_eq_false c1
                    have g28 := of_decide_eq_true c2
                    have en := of_decide_eq_false c81
                    exact Pv.zret rfl (by rw [hQ]; exact LRP.mk_n (by unfold ll; rw [if_pos ⟨by omega, by omega⟩, if_neg (by omega)]; unfold ll_deed; rw [if_pos hw, hg]; exact (if_pos eb).trans (if_neg en)) ry80 (hs78.2.2 en).1 (hs78.2.2 en).2)
                · skip
                  replace c76 : decide (b2i (decide (tnN (tok B n lim (i + 2)) 0 1 = 0)) = 0) = true := by simpa using c76
                  replace c76 := of_decide_eq_true c76
                  replace c76 := b2z.mp c76
                  refine Pv.lit rfl ?_
                  have g14 := of_decide_eq_false c1
                  have g28 := of_decide_eq_true c2
                  have en := of_decide_eq_false c76
                  exact Pv.zret rfl (by rw [hQ]; exact LRP.mk_n (by unfold ll; rw [if_pos ⟨by omega, by omega⟩, if_neg (by omega)]; unfold ll_deed; rw [if_pos hw, hg]; exact if_neg en) ry75 (hs73.2.2 en).1 (hs73.2.2 en).2)
              · skip
                replace c71 : decide (b2i (decide (lkc nm 0 (t_g E) (tok B n lim (i + 1)) = 0)) = 0) = true := by simpa using c71
                replace c71 := of_decide_eq_true c71
                replace c71 := b2z.mp c71
                refine Pv.lit rfl ?_
                have g14 := of_decide_eq_false c1
                have g28 := of_decide_eq_true c2
                have en := of_decide_eq_false c71
                exact Pv.zret rfl (by rw [hQ]; exact LRP.mk_n (by unfold ll; rw [if_pos ⟨by omega, by omega⟩, if_neg (by omega)]; exact ll_deed_n (by omega) en) ry70 (hs68.2.2 en).1 (hs68.2.2 en).2)
            · skip
              replace c66 : decide ((1 : Int32) = 4) = true := by simpa using c66
              replace c66 := (i_eq (a := 1) (b := 4) (by omega) (by omega)).mp (of_decide_eq_true c66)
              omega
          · skip
            replace c65 : decide ((1 : Int32) = 3) = true := by simpa using c65
            replace c65 := (i_eq (a := 1) (b := 3) (by omega) (by omega)).mp (of_decide_eq_true c65)
            omega
        · skip
          replace c59 : decide (Int32.ofNat c = 40) = true := by simpa using c59
          replace c59 := (i_eq (a := c) (b := 40) (by omega) (by omega)).mp (of_decide_eq_true c59)
          refine Pv.aload rfl rfl ?_
          refine Pv.lit rfl ?_
          refine Pv.callVI (as := [.ref 69, .int 4]) (rest := []) (z := 0) rfl rfl rfl (r_bad (c := 4) (RYX.G (c := c) (RYX.of RLX.rf) hG)) ?_
          have g14 := of_decide_eq_false c1
          have g28 := of_decide_eq_true c2
          exact Pv.zret rfl (by rw [hQ]; exact LRP.mk_n (by unfold ll; rw [if_pos ⟨by omega, by omega⟩, if_pos (by omega)]) (RYX.tr (RYX.of RLX.rf) (RYX.of ((RLX.rf.fp (Or.inl rfl)).fp (Or.inr (Or.inl rfl))))) ((fp_ne (Or.inr (by decide))).trans fp_eq) ((congrArg Int32.toInt fp_eq).trans hT.2.2.2.1.1))
      · skip
        replace c58 : decide ((1 : Int32) = 3) = true := by simpa using c58
        replace c58 := (i_eq (a := 1) (b := 3) (by omega) (by omega)).mp (of_decide_eq_true c58)
        omega
  · skip
    replace c1 := of_decide_eq_false c1
    replace c1 := b2n.mp c1
    refine Pv.lit rfl ?_
    refine Pv.goto rfl ?_
    refine Pv.istore (lo' := [some (.ref 69), some (.int (Int32.ofNat (4 * c))), some (.int 0)]) rfl rfl ?_
    refine Pv.iload rfl rfl ?_
    refine Pv.lit rfl ?_
    refine Pv.icmp rfl (fun c82 => ?_) (fun c82 => ?_)
    · skip
      replace c82 : decide ((0 : Int32) = 3) = false := by simpa using c82
      replace c82 := mt (i_eq (a := 0) (b := 3) (by omega) (by omega)).mpr (of_decide_eq_false c82)
      refine Pv.aload rfl rfl ?_
      refine Pv.getI (z := Int32.ofNat c) rfl rfl (h30) ?_
      refine Pv.lit rfl ?_
      refine Pv.icmp rfl (fun c83 => ?_) (fun c83 => ?_)
      · skip
        replace c83 : decide (Int32.ofNat c = 40) = false := by simpa using c83
        replace c83 := mt (i_eq (a := c) (b := 40) (by omega) (by omega)).mpr (of_decide_eq_false c83)
        refine Pv.aload rfl rfl ?_
        refine Pv.getR (v := .ref 73) rfl rfl (GW.at (a := 69) (k := 8) (b := 73) hG (by decide)) ?_
        refine Pv.iload rfl rfl ?_
        refine Pv.iload rfl rfl ?_
        refine Pv.astk (k := 4 * c) (z := 0) rfl (i_toNat (by omega)) (rfl) ?_
        refine Pv.aload rfl rfl ?_
        refine Pv.getR (v := .ref 73) rfl rfl (GW.at (a := 69) (k := 8) (b := 73) hG (by decide)) ?_
        refine Pv.iload rfl rfl ?_
        refine Pv.lit rfl ?_
        refine Pv.bin (z := Int32.ofNat ((4 * c) + 1)) rfl (i_add (4 * c) 1) ?_
        refine Pv.aload rfl rfl ?_
        refine Pv.getI (z := F.1 69 18) rfl rfl (fp_ne (Or.inl (by decide))) ?_
        refine Pv.astk (k := (4 * c) + 1) (z := F.1 69 18) rfl (i_toNat (by omega)) (rfl) ?_
        refine Pv.aload rfl rfl ?_
        refine Pv.callV (as := [.ref 69]) (rest := []) rfl rfl rfl (r_next (RYX.G (c := c) (RYX.st (RYX.st (RYX.of RLX.rf) (by omega)) (by omega)) hG) (RTK.at73 (RTK.at73 hT))) ?_
        rintro _ G84 ⟨rfl, xn85, tn86⟩
        have ry87 : RYX c F G84 := RYX.tr (RYX.st (RYX.st (RYX.of RLX.rf) (by omega)) (by omega)) (RYX.of (RLX.of xn85))
        have ez88 : G84.1 69 15 = F.1 69 15 := (xn85.2.1 15 (by decide) (by decide) (by decide) (by decide) (by decide)).trans (((fp_ne (Or.inl (by decide))).trans ((fp_ne (Or.inl (by decide))).trans rfl)))
        refine (show Pv _ _ 125 [some (.ref 69), some (.int (Int32.ofNat (4 * c))), some (.int 0)] [] G84 Q from ?_)
        refine Pv.iload rfl rfl ?_
        refine Pv.lit rfl ?_
        refine Pv.icmp rfl (fun c89 => ?_) (fun c89 => ?_)
        · skip
          replace c89 : decide ((0 : Int32) = 3) = false := by simpa using c89
          replace c89 := mt (i_eq (a := 0) (b := 3) (by omega) (by omega)).mpr (of_decide_eq_false c89)
          refine Pv.iload rfl rfl ?_
          refine Pv.lit rfl ?_
          refine Pv.icmp rfl (fun c90 => ?_) (fun c90 => ?_)
          · skip
            replace c90 : decide ((0 : Int32) = 4) = false := by simpa using c90
            replace c90 := mt (i_eq (a := 0) (b := 4) (by omega) (by omega)).mpr (of_decide_eq_false c90)
            refine Pv.aload rfl rfl ?_
            refine Pv.lit rfl ?_
            refine Pv.aload rfl rfl ?_
            refine Pv.getR (v := .ref 71) rfl rfl (GW.at (a := 69) (k := 6) (b := 71) (RYX.G ry87 hG) (by decide)) ?_
            refine Pv.lit rfl ?_
            refine Pv.ald (z := Int32.ofNat (t_g E)) rfl ((xn85.1.1 71 _ (by decide)).trans ((fp_ne (Or.inl (by decide))).trans ((fp_ne (Or.inl (by decide))).trans (hE.g)))) ?_
            refine Pv.callV (as := [.ref 69, .int 0, .int (Int32.ofNat (t_g E))]) (rest := []) rfl rfl rfl (r_takesName (o := 0) (q := t_g E) (RYX.G (c := c) ry87 hG) tn86 (by omega) (by omega) (fun g hg => by rw [ry87.1.2.1 74 _ (by decide)]; exact hMg g hg) (fun j hj => by rw [ry87.1.2.1 75 j (by decide)]; exact hR j hj)) ?_
            rintro _ G91 ⟨rfl, hs92x, hv93x⟩
            have hs92 : RSP G84 G91 B n lim (i + 1) (i + 2) (lkc nm 0 (t_g E) (tok B n lim (i + 1))) := hs92x
            have hv93 : (lkc nm 0 (t_g E) (tok B n lim (i + 1)) = 0 → G91.1 69 18 = oN (m_fst (fP nm 0 (tok B n lim (i + 1)).v) (t_g E))) := hv93x
            have ry94 : RYX c F G91 := RYX.tr ry87 (RYX.of hs92.1)
            refine (show Pv _ _ 194 [some (.ref 69), some (.int (Int32.ofNat (4 * c))), some (.int 0)] [.int (b2i (decide (lkc nm 0 (t_g E) (tok B n lim (i + 1)) = 0)))] G91 Q from ?_)
            refine Pv.if0 rfl (fun c95 => ?_) (fun c95 => ?_)
            · skip
              replace c95 : decide (b2i (decide (lkc nm 0 (t_g E) (tok B n lim (i + 1)) = 0)) = 0) = false := by simpa using c95
              replace c95 := of_decide_eq_false c95
              replace c95 := b2n.mp c95
              have en := of_decide_eq_true c95
              have tn := hs92.2.1 en
              have zn := tn.2.trans (ez88)
              obtain ⟨kn, g, hg, hgl⟩ := lkc_y (by omega) en
              have vn := hv93 en
              rw [hg] at vn
              rw [fP_0] at hg
              have hw : tnW (tok B n lim (i + 1)) = 0 := if_pos kn
              refine Pv.aload rfl rfl ?_
              refine Pv.getR (v := .ref 73) rfl rfl (GW.at (a := 69) (k := 8) (b := 73) (RYX.G ry94 hG) (by decide)) ?_
              refine Pv.iload rfl rfl ?_
              refine Pv.lit rfl ?_
              refine Pv.bin (z := Int32.ofNat ((4 * c) + 1)) rfl (i_add (4 * c) 1) ?_
              refine Pv.aload rfl rfl ?_
              refine Pv.getI (z := Int32.ofNat g) rfl rfl (vn) ?_
              refine Pv.astk (k := (4 * c) + 1) (z := Int32.ofNat g) rfl (i_toNat (by omega)) (rfl) ?_
              refine Pv.aload rfl rfl ?_
              refine Pv.lit rfl ?_
              refine Pv.lit rfl ?_
              refine Pv.callV (as := [.ref 69, .int 0, .int 1]) (rest := []) rfl rfl rfl (r_takes (RYX.G (c := c) (RYX.st ry94 (by omega)) hG) (RTK.at73 tn.1) 0 1) ?_
              rintro _ G96 ⟨rfl, hs97x, hv98x⟩
              have hs97 : RSP (fp G91 73 ((4 * c) + 1) (Int32.ofNat g)) G96 B n lim (i + 2) (i + 3) (tnN (tok B n lim (i + 2)) 0 1) := hs97x
              have hv98 : (tnN (tok B n lim (i + 2)) 0 1 = 0 → (G96.1 69 18).toInt = (tok B n lim (i + 2)).v) := hv98x
              have ry99 : RYX c F G96 := RYX.tr (RYX.st ry94 (by omega)) (RYX.of hs97.1)
              refine (show Pv _ _ 217 [some (.ref 69), some (.int (Int32.ofNat (4 * c))), some (.int 0)] [.int (b2i (decide (tnN (tok B n lim (i + 2)) 0 1 = 0)))] G96 Q from ?_)
              refine Pv.if0 rfl (fun c100 => ?_) (fun c100 => ?_)
              · skip
                replace c100 : decide (b2i (decide (tnN (tok B n lim (i + 2)) 0 1 = 0)) = 0) = false := by simpa using c100
                replace c100 := of_decide_eq_false c100
                replace c100 := b2n.mp c100
                have eb := of_decide_eq_true c100
                have tb := hs97.2.1 eb
                have zb := tb.2.trans (((fp_ne (Or.inl (by decide))).trans zn))
                have kb := tnN_k eb
                have vb := i_ofv (hv98 eb) (by omega)
                refine Pv.aload rfl rfl ?_
                refine Pv.getR (v := .ref 73) rfl rfl (GW.at (a := 69) (k := 8) (b := 73) (RYX.G ry99 hG) (by decide)) ?_
                refine Pv.iload rfl rfl ?_
                refine Pv.lit rfl ?_
                refine Pv.bin (z := Int32.ofNat ((4 * c) + 2)) rfl (i_add (4 * c) 2) ?_
                refine Pv.aload rfl rfl ?_
                refine Pv.getI (z := Int32.ofNat ((tok B n lim (i + 2)).v.toNat)) rfl rfl (vb) ?_
                refine Pv.astk (k := (4 * c) + 2) (z := Int32.ofNat ((tok B n lim (i + 2)).v.toNat)) rfl (i_toNat (by omega)) (rfl) ?_
                refine Pv.aload rfl rfl ?_
                refine Pv.lit rfl ?_
                refine Pv.lit rfl ?_
                refine Pv.callV (as := [.ref 69, .int 1, .int 250]) (rest := []) rfl rfl rfl (r_takes (RYX.G (c := c) (RYX.st ry99 (by omega)) hG) (RTK.at73 tb.1) 1 250) ?_
                rintro _ G101 ⟨rfl, hs102x, hv103x⟩
                have hs102 : RSP (fp G96 73 ((4 * c) + 2) (Int32.ofNat ((tok B n lim (i + 2)).v.toNat))) G101 B n lim (i + 3) (i + 4) (tnN (tok B n lim (i + 3)) 1 250) := hs102x
                have hv103 : (tnN (tok B n lim (i + 3)) 1 250 = 0 → (G101.1 69 18).toInt = (tok B n lim (i + 3)).v) := hv103x
                have ry104 : RYX c F G101 := RYX.tr (RYX.st ry99 (by omega)) (RYX.of hs102.1)
                refine (show Pv _ _ 242 [some (.ref 69), some (.int (Int32.ofNat (4 * c))), some (.int 0)] [.int (b2i (decide (tnN (tok B n lim (i + 3)) 1 250 = 0)))] G101 Q from ?_)
                refine Pv.if0 rfl (fun c105 => ?_) (fun c105 => ?_)
                · skip
                  replace c105 : decide (b2i (decide (tnN (tok B n lim (i + 3)) 1 250 = 0)) = 0) = false := by simpa using c105
                  replace c105 := of_decide_eq_false c105
                  replace c105 := b2n.mp c105
                  have ec := of_decide_eq_true c105
                  have tc := hs102.2.1 ec
                  have zc := tc.2.trans (((fp_ne (Or.inl (by decide))).trans zb))
                  have kc := tnN_k ec
                  have vc := i_ofv (hv103 ec) (by omega)
                  refine Pv.aload rfl rfl ?_
                  refine Pv.getR (v := .ref 73) rfl rfl (GW.at (a := 69) (k := 8) (b := 73) (RYX.G ry104 hG) (by decide)) ?_
                  refine Pv.iload rfl rfl ?_
                  refine Pv.lit rfl ?_
                  refine Pv.bin (z := Int32.ofNat ((4 * c) + 3)) rfl (i_add (4 * c) 3) ?_
                  refine Pv.aload rfl rfl ?_
                  refine Pv.getI (z := Int32.ofNat ((tok B n lim (i + 3)).v.toNat)) rfl rfl (vc) ?_
                  refine Pv.astk (k := (4 * c) + 3) (z := Int32.ofNat ((tok B n lim (i + 3)).v.toNat)) rfl (i_toNat (by omega)) (rfl) ?_
                  refine Pv.lit rfl ?_
                  have g14 := of_decide_eq_true c1
                  exact Pv.zret rfl (by rw [hQ]; exact LRP.mk_y (d := 0) (w := 2 * g + (tok B n lim (i + 2)).v.toNat) (m := (tok B n lim (i + 3)).v.toNat) (by unfold ll; rw [if_pos ⟨by omega, by omega⟩, if_neg (by omega), show ((tok B n lim i).k - 72).toNat = 0 by omega]; unfold ll_deed; rw [if_pos hw, hg]; exact (if_pos eb).trans (if_pos ec)) (RYX.st ry104 (by omega)) (RTK.at73 tc.1) (((fp_ne (Or.inl (by decide))).trans zc)) ⟨(fp_ne (Or.inr (by omega))).trans ((hs102.1.1.1 73 _ (by decide)).trans ((fp_ne (Or.inr (by omega))).trans ((hs97.1.1.1 73 _ (by decide)).trans ((fp_ne (Or.inr (by omega))).trans ((hs92.1.1.1 73 _ (by decide)).trans ((xn85.1.1 73 _ (by decide)).trans ((fp_ne (Or.inr (by omega))).trans (fp_eq)))))))), fun _ => ⟨by rw [show (2 * g + (tok B n lim (i + 2)).v.toNat) / 2 = g by omega]; exact (fp_ne (Or.inr (by omega))).trans ((hs102.1.1.1 73 _ (by decide)).trans ((fp_ne (Or.inr (by omega))).trans ((hs97.1.1.1 73 _ (by decide)).trans (fp_eq)))), by rw [show (2 * g + (tok B n lim (i + 2)).v.toNat) % 2 = (tok B n lim (i + 2)).v.toNat by omega]; exact (fp_ne (Or.inr (by omega))).trans ((hs102.1.1.1 73 _ (by decide)).trans (fp_eq)), fp_eq⟩, fun h => absurd h (by decide), fun h => absurd h (by decide)⟩)
                · skip
                  replace c105 : decide (b2i (decide (tnN (tok B n lim (i + 3)) 1 250 = 0)) = 0) = true := by simpa using c105
                  replace c105 := of_decide_eq_true c105
                  replace c105 := b2z.mp c105
                  refine Pv.lit rfl ?_
                  have g14 := of_decide_eq_true c1
                  have en := of_decide_eq_false c105
                  exact Pv.zret rfl (by rw [hQ]; exact LRP.mk_n (by unfold ll; rw [if_pos ⟨by omega, by omega⟩, if_neg (by omega)]; unfold ll_deed; rw [if_pos hw, hg]; exact (if_pos eb).trans (if_neg en)) ry104 (hs102.2.2 en).1 (hs102.2.2 en).2)
              · skip
                replace c100 : decide (b2i (decide (tnN (tok B n lim (i + 2)) 0 1 = 0)) = 0) = true := by simpa using c100
                replace c100 := of_decide_eq_true c100
                replace c100 := b2z.mp c100
                refine Pv.lit rfl ?_
                have g14 := of_decide_eq_true c1
                have en := of_decide_eq_false c100
                exact Pv.zret rfl (by rw [hQ]; exact LRP.mk_n (by unfold ll; rw [if_pos ⟨by omega, by omega⟩, if_neg (by omega)]; unfold ll_deed; rw [if_pos hw, hg]; exact if_neg en) ry99 (hs97.2.2 en).1 (hs97.2.2 en).2)
            · skip
              replace c95 : decide (b2i (decide (lkc nm 0 (t_g E) (tok B n lim (i + 1)) = 0)) = 0) = true := by simpa using c95
              replace c95 := of_decide_eq_true c95
              replace c95 := b2z.mp c95
              refine Pv.lit rfl ?_
              have g14 := of_decide_eq_true c1
              have en := of_decide_eq_false c95
              exact Pv.zret rfl (by rw [hQ]; exact LRP.mk_n (by unfold ll; rw [if_pos ⟨by omega, by omega⟩, if_neg (by omega)]; exact ll_deed_n (by omega) en) ry94 (hs92.2.2 en).1 (hs92.2.2 en).2)
          · skip
            replace c90 : decide ((0 : Int32) = 4) = true := by simpa using c90
            replace c90 := (i_eq (a := 0) (b := 4) (by omega) (by omega)).mp (of_decide_eq_true c90)
            omega
        · skip
          replace c89 : decide ((0 : Int32) = 3) = true := by simpa using c89
          replace c89 := (i_eq (a := 0) (b := 3) (by omega) (by omega)).mp (of_decide_eq_true c89)
          omega
      · skip
        replace c83 : decide (Int32.ofNat c = 40) = true := by simpa using c83
        replace c83 := (i_eq (a := c) (b := 40) (by omega) (by omega)).mp (of_decide_eq_true c83)
        refine Pv.aload rfl rfl ?_
        refine Pv.lit rfl ?_
        refine Pv.callVI (as := [.ref 69, .int 4]) (rest := []) (z := 0) rfl rfl rfl (r_bad (c := 4) (RYX.G (c := c) (RYX.of RLX.rf) hG)) ?_
        have g14 := of_decide_eq_true c1
        exact Pv.zret rfl (by rw [hQ]; exact LRP.mk_n (by unfold ll; rw [if_pos ⟨by omega, by omega⟩, if_pos (by omega)]) (RYX.tr (RYX.of RLX.rf) (RYX.of ((RLX.rf.fp (Or.inl rfl)).fp (Or.inr (Or.inl rfl))))) ((fp_ne (Or.inr (by decide))).trans fp_eq) ((congrArg Int32.toInt fp_eq).trans hT.2.2.2.1.1))
    · skip
      replace c82 : decide ((0 : Int32) = 3) = true := by simpa using c82
      replace c82 := (i_eq (a := 0) (b := 3) (by omega) (by omega)).mp (of_decide_eq_true c82)
      omega
end
-- 63.b85.jg.lean.txt
section
/-! ===== a LOG is judged ===== -/
/-- what is wrong with a line: 0 nothing -/
def jw (S : Sh) (y : Nat × Nat × Nat) : Int32 := if y.1 = 4 then (if h_d S + y.2.2 ≤ 400 then 0 else 41) else if m_why y.1 S y.2.1 (Int32.ofNat y.2.2) = 0 then 0 else Int32.ofNat (10 * y.1) + m_why y.1 S y.2.1 (Int32.ofNat y.2.2)
/-- as it is after it -/
def js (T : St) (S : Sh) (y : Nat × Nat × Nat) : Sh := if y.1 = 4 then (if h_d S + y.2.2 ≤ 400 then m_days T S y.2.2 else S) else m_try y.1 S y.2.1 (Int32.ofNat y.2.2)
def jr (T : St) (L : LN) (S : Sh) : Nat → Sh
  | 0 => S
  | k + 1 => js T (jr T L S k) (L k)
/-- is this line wrong -/
def jP (T : St) (L : LN) (S : Sh) (k : Nat) : Bool := !decide (jw (jr T L S k) (L k) = 0)
/-- a line that a text can hold -/
def LYK (T : St) (y : Nat × Nat × Nat) : Prop := y.1 ≤ 4 ∧ (y.1 < 3 → y.2.1 < 12 ∧ 1 ≤ y.2.2 ∧ y.2.2 ≤ 250) ∧ (y.1 = 3 → y.2.1 < t_m T ∧ y.2.2 = 0) ∧ (y.1 = 4 → 1 ≤ y.2.2 ∧ y.2.2 ≤ 60)
theorem js_w {T : St} {S : Sh} {y : Nat × Nat × Nat} (hy : y.1 ≤ 4) (h : ¬ jw S y = 0) : js T S y = S := by
  unfold jw at h
  unfold js
  by_cases c : y.1 = 4
  · rw [if_pos c] at h ⊢
    by_cases e : h_d S + y.2.2 ≤ 400
    · rw [if_pos e] at h
      exact absurd rfl h
    · rw [if_neg e]
  · rw [if_neg c] at h ⊢
    by_cases e : m_why y.1 S y.2.1 (Int32.ofNat y.2.2) = 0
    · rw [if_pos e] at h
      exact absurd rfl h
    · exact if_neg e
theorem INV_js {T : St} {S : Sh} {y : Nat × Nat × Nat} (hT : TBB T) (hg : t_g T ≤ 6) (h : INV T S) (hy : LYK T y) : INV T (js T S y) := by
  unfold js
  by_cases c : y.1 = 4
  · rw [if_pos c]
    split
    · exact INV_days hT hg h _
    · exact h
  · rw [if_neg c]
    by_cases c3 : y.1 = 3
    · rw [c3, (hy.2.2.1 c3).2]
      exact INV_try3 h
    · have k := hy.2.1 (by have := hy.1; omega)
      exact INV_try h (by have := hy.1; omega) k.1 k.2.2
theorem INV_jr {T : St} {L : LN} {S : Sh} (hT : TBB T) (hg : t_g T ≤ 6) (h : INV T S) : ∀ n, (∀ l, l < n → LYK T (L l)) → INV T (jr T L S n)
  | 0, _ => h
  | n + 1, k => INV_js hT hg (INV_jr hT hg h n fun l hl => k l (by omega)) (k n (Nat.lt_succ_self n))
theorem ll_num_y {X : TT} {lo hi : Int} {j : Nat} {K : Nat → LL} {d w x i : Nat} (h : ll_num X lo hi j K = ll_y d w x i) : (lo ≤ X.v ∧ X.v ≤ hi) ∧ K X.v.toNat = ll_y d w x i := by
  unfold ll_num at h
  by_cases c : tnN X lo hi = 0
  · rw [if_pos c] at h
    exact ⟨(tnN_k c).2, h⟩
  · rw [if_neg c] at h
    cases h
theorem ll_ok {K : Nat → TT} {nm : Nat → Int} {T : St} {c i d w x j : Nat} (hg : t_g T ≤ 6) (e : ll K nm (t_g T) (t_m T) c i = ll_y d w x j) : LYK T (d, w, x) := by
  have c40 := ll_40 e
  unfold ll at e
  by_cases a : 72 ≤ (K i).k ∧ (K i).k ≤ 74
  · rw [if_pos a, if_neg (by omega)] at e
    unfold ll_deed at e
    split at e
    · split at e
      · cases e
      · rename_i g hq
        have b := (m_fst_lt hq).1
        obtain ⟨h1, e1⟩ := ll_num_y e
        obtain ⟨h2, e2⟩ := ll_num_y e1
        cases e2
        exact ⟨by show ((K i).k - 72).toNat ≤ 4; omega, fun _ => ⟨by show 2 * g + _ < 12; omega, by show 1 ≤ (K (i + 3)).v.toNat; omega, by show (K (i + 3)).v.toNat ≤ 250; omega⟩, fun h => absurd (show ((K i).k - 72).toNat = 3 from h) (by omega), fun h => absurd (show ((K i).k - 72).toNat = 4 from h) (by omega)⟩
    · cases e
  · rw [if_neg a] at e
    by_cases b : (K i).k = 76
    · rw [if_pos b, if_neg (by omega)] at e
      unfold ll_days at e
      obtain ⟨h1, e1⟩ := ll_num_y e
      cases e1
      exact ⟨Nat.le_refl 4, fun h => absurd (show 4 < 3 from h) (by decide), fun h => absurd (show 4 = 3 from h) (by decide), fun _ => ⟨by show 1 ≤ (K (i + 1)).v.toNat; omega, by show (K (i + 1)).v.toNat ≤ 60; omega⟩⟩
    · rw [if_neg b] at e
      split at e
      · split at e
        · cases e
        · rename_i u hu
          have l := (m_fst_lt hu).1
          rw [if_neg (by omega)] at e
          unfold ll_death at e
          split at e
          · cases e
            exact ⟨show 3 ≤ 4 by decide, fun h => absurd (show 3 < 3 from h) (by decide), fun _ => ⟨l, rfl⟩, fun h => absurd (show 3 = 4 from h) (by decide)⟩
          · cases e
      · cases e
theorem f_attempt4 {F : FW} {p d w x : Nat} {T : St} {S : Sh} (hS : SHR F p (t_m T) S) (hm : t_m T ≤ 8) (hL : LYK T (d, w, x)) (h4 : ¬ d = 4) : Pm Z_X6_attempt [.ref p, .int (Int32.ofNat d), .int (Int32.ofNat w), .int (Int32.ofNat x)] F (fun r F' => r = some (.int (m_why d S w (Int32.ofNat x))) ∧ FX (fun q => p ≤ q ∧ q ≤ p + 7) F F' ∧ SHR F' p (t_m T) (m_try d S w (Int32.ofNat x))) := by
  have h1 : d ≤ 4 := hL.1
  by_cases c : d = 3
  · subst c
    have k := hL.2.2.1 rfl
    have k2 : x = 0 := k.2
    subst k2
    exact f_attempt3 hS k.1 hm
  · have k := hL.2.1 (show d < 3 by omega)
    have k2 : 1 ≤ x ∧ x ≤ 250 := k.2
    exact f_attempt hS k.1 (by omega) (by omega)
end
-- 63.b85a.lean.txt
section
set_option maxRecDepth 100000 in
set_option maxHeartbeats 4000000 in
theorem o_liveLine {F : FW} {t d w x : Nat} {T : St} {S : Sh} (hG : GW F) (ht : F.2.1 0 13 = .ref t) (hT : TR F t T) (hS : SHR F 20 (t_m T) S) (j0 : t = 45 ∨ t = 53) (hL : LYK T (d, w, x)) : Pm Z_X10_liveLine [.ref 0, .int (Int32.ofNat d), .int (Int32.ofNat w), .int (Int32.ofNat x)] F (fun r F' => r = some (.int (jw S (d, w, x))) ∧ FX (fun q => (20 ≤ q ∧ q ≤ 27) ∨ (7 ≤ q ∧ q ≤ 9)) F F' ∧ SHR F' 20 (t_m T) (js T S (d, w, x))) := by
  refine Pm.of fun N => ?_
  obtain ⟨Q, hQ⟩ : ∃ Q : Option Value → FW → Prop, Q = (fun r F' => r = some (.int (jw S (d, w, x))) ∧ FX (fun q => (20 ≤ q ∧ q ≤ 27) ∨ (7 ≤ q ∧ q ≤ 9)) F F' ∧ SHR F' 20 (t_m T) (js T S (d, w, x))) := ⟨_, rfl⟩
  rw [← hQ]
  have b3 := hT.mb
  have b4 := hT.nb
  have b5 := hT.gb
  have b7 := hS.db
  have hL1 : d ≤ 4 := hL.1
  have hL4 : d = 4 → 1 ≤ x ∧ x ≤ 60 := hL.2.2.2
  refine (show Pv (ab_T (L_X10_liveLine Z_X1_passDays Z_X6_attempt)) N 0 [some (.ref 0), some (.int (Int32.ofNat d)), some (.int (Int32.ofNat w)), some (.int (Int32.ofNat x)), none] [] F Q from ?_)
  refine Pv.iload rfl rfl ?_
  refine Pv.lit rfl ?_
  refine Pv.icmp rfl (fun c1 => ?_) (fun c1 => ?_)
  · skip
    replace c1 : decide (Int32.ofNat d = 4) = false := by simpa using c1
    replace c1 := mt (i_eq (a := d) (b := 4) (by omega) (by omega)).mpr (of_decide_eq_false c1)
    refine Pv.aload rfl rfl ?_
    refine Pv.getR (v := .ref 20) rfl rfl (GW.at (a := 0) (k := 5) (b := 20) hG (by decide)) ?_
    refine Pv.iload rfl rfl ?_
    refine Pv.iload rfl rfl ?_
    refine Pv.iload rfl rfl ?_
    refine Pv.callV (as := [.ref 20, .int (Int32.ofNat d), .int (Int32.ofNat w), .int (Int32.ofNat x)]) (rest := []) rfl rfl rfl (f_attempt4 hS b3 hL (by omega)) ?_
    rintro _ G ⟨rfl, x1, x2⟩
    refine (show Pv _ _ 52 [some (.ref 0), some (.int (Int32.ofNat d)), some (.int (Int32.ofNat w)), some (.int (Int32.ofNat x)), none] [.int (m_why d S w (Int32.ofNat x))] G Q from ?_)
    refine Pv.istore (lo' := [some (.ref 0), some (.int (Int32.ofNat d)), some (.int (Int32.ofNat w)), some (.int (Int32.ofNat x)), some (.int (m_why d S w (Int32.ofNat x)))]) rfl rfl ?_
    refine Pv.iload rfl rfl ?_
    refine Pv.if0 rfl (fun c2 => ?_) (fun c2 => ?_)
    · skip
      replace c2 : decide (m_why d S w (Int32.ofNat x) = 0) = false := by simpa using c2
      replace c2 := of_decide_eq_false c2
      refine Pv.lit rfl ?_
      refine Pv.iload rfl rfl ?_
      refine Pv.bin (z := Int32.ofNat (10 * d)) rfl (i_mul 10 d) ?_
      refine Pv.iload rfl rfl ?_
      refine Pv.bin (z := (Int32.ofNat (10 * d)) + (m_why d S w (Int32.ofNat x))) rfl (rfl) ?_
      exact Pv.ret rfl (by rw [hQ]; exact ⟨by unfold jw; rw [if_neg (show ¬ d = 4 by omega), if_neg c2], x1.wd (fun q c => Or.inl (by omega)), by unfold js; rw [if_neg (show ¬ d = 4 by omega)]; exact x2⟩)
    · skip
      replace c2 : decide (m_why d S w (Int32.ofNat x) = 0) = true := by simpa using c2
      replace c2 := of_decide_eq_true c2
      refine Pv.lit rfl ?_
      refine Pv.goto rfl ?_
      exact Pv.ret rfl (by rw [hQ]; exact ⟨by unfold jw; rw [if_neg (show ¬ d = 4 by omega), if_pos c2], x1.wd (fun q c => Or.inl (by omega)), by unfold js; rw [if_neg (show ¬ d = 4 by omega)]; exact x2⟩)
  · skip
    replace c1 : decide (Int32.ofNat d = 4) = true := by simpa using c1
    replace c1 := (i_eq (a := d) (b := 4) (by omega) (by omega)).mp (of_decide_eq_true c1)
    refine Pv.lit rfl ?_
    refine Pv.aload rfl rfl ?_
    refine Pv.getR (v := .ref 20) rfl rfl (GW.at (a := 0) (k := 5) (b := 20) hG (by decide)) ?_
    refine Pv.getI (z := Int32.ofNat (h_d S)) rfl rfl (hS.d) ?_
    refine Pv.bin (z := Int32.ofNat (400 - h_d S)) rfl (i_subN (a := 400) (b := h_d S) b7) ?_
    refine Pv.iload rfl rfl ?_
    refine Pv.icmp rfl (fun c3 => ?_) (fun c3 => ?_)
    · skip
      replace c3 := (i_le (a := x) (b := 400 - h_d S) (by omega) (by omega)).mp (of_decide_eq_true c3)
      refine Pv.aload rfl rfl ?_
      refine Pv.getR (v := .ref 7) rfl rfl (GW.at (a := 0) (k := 2) (b := 7) hG (by decide)) ?_
      refine Pv.aload rfl rfl ?_
      refine Pv.getR (v := .ref t) rfl rfl (ht) ?_
      refine Pv.aload rfl rfl ?_
      refine Pv.getR (v := .ref 20) rfl rfl (GW.at (a := 0) (k := 5) (b := 20) hG (by decide)) ?_
      refine Pv.iload rfl rfl ?_
      refine Pv.callV (as := [.ref 7, .ref t, .ref 20, .int (Int32.ofNat x)]) (rest := []) rfl rfl rfl (f_passDays (n := x) hT hS hG (by omega) (by omega) (by omega) (by omega)) ?_
      rintro _ G ⟨rfl, x1, x2, x3⟩
      refine (show Pv _ _ 39 [some (.ref 0), some (.int (Int32.ofNat d)), some (.int (Int32.ofNat w)), some (.int (Int32.ofNat x)), none] [.int (Int32.ofNat (h_d (m_days T S x)) - Int32.ofNat (h_d S))] G Q from ?_)
      refine Pv.pop rfl ?_
      refine Pv.lit rfl ?_
      have e : h_d S + x ≤ 400 := by omega
      exact Pv.ret rfl (by rw [hQ]; exact ⟨by unfold jw; rw [if_pos (show d = 4 by omega), if_pos e], x1.wd (fun q c => c), by unfold js; rw [if_pos (show d = 4 by omega), if_pos e]; exact x2⟩)
    · skip
      replace c3 := mt (i_le (a := x) (b := 400 - h_d S) (by omega) (by omega)).mpr (of_decide_eq_false c3)
      refine Pv.lit rfl ?_
      have e : ¬ h_d S + x ≤ 400 := by omega
      exact Pv.ret rfl (by rw [hQ]; exact ⟨by unfold jw; rw [if_pos (show d = 4 by omega), if_neg e], FX.rf, by unfold js; rw [if_pos (show d = 4 by omega), if_neg e]; exact hS⟩)
end
-- 63.b86.jl.lean.txt
section
def jn (n : Nat) (q : Option Nat) : Nat := match q with
  | none => n
  | some k => k
def jc (T : St) (L : LN) (S : Sh) (q : Option Nat) : Int32 := match q with
  | none => 0
  | some k => jw (jr T L S k) (L k)
end
-- 63.b86a.lean.txt
section
set_option maxRecDepth 100000 in
set_option maxHeartbeats 4000000 in
theorem o_judgeLog {F : FW} {t n : Nat} {T : St} {S : Sh} {L : LN} (hG : GW F) (ht : F.2.1 0 13 = .ref t) (hT : TR F t T) (hS : SHR F 20 (t_m T) S) (j0 : t = 45 ∨ t = 53) (h36 : F.1 36 3 = Int32.ofNat n) (hn : n ≤ 40) (hN : LNS F L n) (hK : ∀ l, l < n → LYK T (L l)) : Pm Z_X10_judgeLog [.ref 0] F (fun r F' => r = some (.int (oN (m_fst (jP T L S) n))) ∧ FX (fun q => (20 ≤ q ∧ q ≤ 27) ∨ (7 ≤ q ∧ q ≤ 9) ∨ q = 44) F F' ∧ SHR F' 20 (t_m T) (jr T L S (jn n (m_fst (jP T L S) n))) ∧ F'.1 44 0 = jc T L S (m_fst (jP T L S) n) ∧ F'.1 44 1 = Int32.ofNat (jn n (m_fst (jP T L S) n)) ∧ ∀ j, j ≠ 0 → j ≠ 1 → F'.1 44 j = F.1 44 j) := by
  refine Pm.of fun N => ?_
  obtain ⟨Q, hQ⟩ : ∃ Q : Option Value → FW → Prop, Q = (fun r F' => r = some (.int (oN (m_fst (jP T L S) n))) ∧ FX (fun q => (20 ≤ q ∧ q ≤ 27) ∨ (7 ≤ q ∧ q ≤ 9) ∨ q = 44) F F' ∧ SHR F' 20 (t_m T) (jr T L S (jn n (m_fst (jP T L S) n))) ∧ F'.1 44 0 = jc T L S (m_fst (jP T L S) n) ∧ F'.1 44 1 = Int32.ofNat (jn n (m_fst (jP T L S) n)) ∧ ∀ j, j ≠ 0 → j ≠ 1 → F'.1 44 j = F.1 44 j) := ⟨_, rfl⟩
  rw [← hQ]
  refine (show Pv (ab_T (L_X10_judgeLog Z_X10_liveLine)) N 0 [some (.ref 0), none, none] [] F Q from ?_)
  refine Pv.lit rfl ?_
  refine Pv.istore (lo' := [some (.ref 0), some (.int 0), none]) rfl rfl ?_
  refine Pv.lp (ι := Nat × FW × (Option Value)) (lof := fun ⟨k, G, o1⟩ => [some (.ref 0), some (.int (Int32.ofNat k)), o1]) (Ff := fun ⟨k, G, o1⟩ => G) (P := fun ⟨k, G, o1⟩ => (k ≤ n) ∧ (FX (fun q => (20 ≤ q ∧ q ≤ 27) ∨ (7 ≤ q ∧ q ≤ 9)) F G) ∧ (SHR G 20 (t_m T) (jr T L S k)) ∧ (m_fst (jP T L S) k = none)) ?_ (0, F, none) (⟨Nat.zero_le _, FX.rf, hS, rfl⟩)
  rintro N2 hN3 ⟨k, G, o1⟩ hi4 ih5
  refine (show Pv _ _ 2 [some (.ref 0), some (.int (Int32.ofNat k)), o1] [] G Q from ?_)
  obtain ⟨hk, hx, hSk, hb⟩ := hi4
  have gw := hG.fx hx
  refine Pv.iloadS rfl rfl ?_
  refine Pv.aload rfl rfl ?_
  refine Pv.getR (v := .ref 36) rfl rfl (GW.at (a := 0) (k := 7) (b := 36) gw (by decide)) ?_
  refine Pv.getI (z := Int32.ofNat n) rfl rfl ((hx.1 36 3 (by decide)).trans h36) ?_
  refine Pv.icmp rfl (fun c6 => ?_) (fun c6 => ?_)
  · skip
    replace c6 := (i_le (a := n) (b := k) (by omega) (by omega)).mp (of_decide_eq_true c6)
    refine Pv.aload rfl rfl ?_
    refine Pv.getR (v := .ref 44) rfl rfl (GW.at (a := 0) (k := 12) (b := 44) gw (by decide)) ?_
    refine Pv.lit rfl ?_
    refine Pv.lit rfl ?_
    refine Pv.astk (k := 0) (z := 0) rfl (rfl) (rfl) ?_
    refine Pv.aload rfl rfl ?_
    refine Pv.getR (v := .ref 44) rfl rfl (GW.at (a := 0) (k := 12) (b := 44) gw (by decide)) ?_
    refine Pv.lit rfl ?_
    refine Pv.aload rfl rfl ?_
    refine Pv.getR (v := .ref 36) rfl rfl (GW.at (a := 0) (k := 7) (b := 36) gw (by decide)) ?_
    refine Pv.getI (z := Int32.ofNat n) rfl rfl ((fp_ne (Or.inl (by decide))).trans ((hx.1 36 3 (by decide)).trans h36)) ?_
    refine Pv.astk (k := 1) (z := Int32.ofNat n) rfl (rfl) (rfl) ?_
    refine Pv.lit rfl ?_
    have en : m_fst (jP T L S) n = none := by rw [show n = k by omega]; exact hb
    have ek : k = n := by omega
    exact Pv.ret rfl (by rw [hQ]; exact ⟨by rw [en]; rfl, ((hx.wd (P' := fun q => (20 ≤ q ∧ q ≤ 27) ∨ (7 ≤ q ∧ q ≤ 9) ∨ q = 44) (fun q c => c.elim Or.inl (fun e => Or.inr (Or.inl e)))).fp (Or.inr (Or.inr rfl))).fp (Or.inr (Or.inr rfl)), by rw [en]; show SHR _ 20 (t_m T) (jr T L S n); rw [← ek]; exact (SHR.fx (P := fun q => q = 44) hSk (((FX.rf (P := fun q => q = 44)).fp rfl).fp rfl) (fun q h1 h2 (c : q = 44) => by omega)), by rw [en]; exact (fp_ne (Or.inr (by decide))).trans fp_eq, by rw [en]; exact fp_eq, fun j h0 h1 => (fp_ne (Or.inr h1)).trans ((fp_ne (Or.inr h0)).trans (hx.1 44 j (by decide)))⟩)
  · skip
    replace c6 := mt (i_le (a := n) (b := k) (by omega) (by omega)).mpr (of_decide_eq_false c6)
    have hlt : k < n := by omega
    refine Pv.aload rfl rfl ?_
    refine Pv.aload rfl rfl ?_
    refine Pv.getR (v := .ref 36) rfl rfl (GW.at (a := 0) (k := 7) (b := 36) gw (by decide)) ?_
    refine Pv.getR (v := .ref 37) rfl rfl (GW.at (a := 36) (k := 0) (b := 37) gw (by decide)) ?_
    refine Pv.iload rfl rfl ?_
    refine Pv.ald (z := Int32.ofNat ((L k).1)) rfl (by rw [i_toNat (by omega)]; exact (hx.1 37 _ (by decide)).trans (hN k hlt).1) ?_
    refine Pv.aload rfl rfl ?_
    refine Pv.getR (v := .ref 36) rfl rfl (GW.at (a := 0) (k := 7) (b := 36) gw (by decide)) ?_
    refine Pv.getR (v := .ref 38) rfl rfl (GW.at (a := 36) (k := 1) (b := 38) gw (by decide)) ?_
    refine Pv.iload rfl rfl ?_
    refine Pv.ald (z := Int32.ofNat ((L k).2.1)) rfl (by rw [i_toNat (by omega)]; exact (hx.1 38 _ (by decide)).trans (hN k hlt).2.1) ?_
    refine Pv.aload rfl rfl ?_
    refine Pv.getR (v := .ref 36) rfl rfl (GW.at (a := 0) (k := 7) (b := 36) gw (by decide)) ?_
    refine Pv.getR (v := .ref 39) rfl rfl (GW.at (a := 36) (k := 2) (b := 39) gw (by decide)) ?_
    refine Pv.iload rfl rfl ?_
    refine Pv.ald (z := Int32.ofNat ((L k).2.2)) rfl (by rw [i_toNat (by omega)]; exact (hx.1 39 _ (by decide)).trans (hN k hlt).2.2) ?_
    refine Pv.callV (as := [.ref 0, .int (Int32.ofNat ((L k).1)), .int (Int32.ofNat ((L k).2.1)), .int (Int32.ofNat ((L k).2.2))]) (rest := []) rfl rfl rfl (o_liveLine (d := (L k).1) (w := (L k).2.1) (x := (L k).2.2) gw ((congrArg (fun z => z 0 13) hx.2.2.1).trans ht) (hT.fx hx (fun q h1 h2 (c : (20 ≤ q ∧ q ≤ 27) ∨ (7 ≤ q ∧ q ≤ 9)) => by omega)) hSk j0 (hK k hlt)) ?_
    rintro _ G2 ⟨rfl, x1, x2⟩
    have gw2 := GW.fx gw x1
    refine (show Pv _ _ 44 [some (.ref 0), some (.int (Int32.ofNat k)), o1] [.int (jw (jr T L S k) (L k))] G2 Q from ?_)
    refine Pv.istore (lo' := [some (.ref 0), some (.int (Int32.ofNat k)), some (.int (jw (jr T L S k) (L k)))]) rfl rfl ?_
    refine Pv.iload rfl rfl ?_
    refine Pv.if0 rfl (fun c7 => ?_) (fun c7 => ?_)
    · skip
      replace c7 := of_decide_eq_true c7
      refine Pv.iinc (y := Int32.ofNat (k + 1)) (lo' := [some (.ref 0), some (.int (Int32.ofNat (k + 1))), some (.int (jw (jr T L S k) (L k)))]) rfl rfl (i_add k 1) rfl ?_
      refine Pv.goto rfl ?_
      exact ih5 (k + 1, G2, (some (.int (jw (jr T L S k) (L k))))) (⟨by omega, hx.tr x1, x2, m_fst_n hb (show (!decide (jw (jr T L S k) (L k) = 0)) = false by rw [decide_eq_true c7]; rfl)⟩)
    · skip
      replace c7 := of_decide_eq_false c7
      refine Pv.aload rfl rfl ?_
      refine Pv.getR (v := .ref 44) rfl rfl (GW.at (a := 0) (k := 12) (b := 44) gw2 (by decide)) ?_
      refine Pv.lit rfl ?_
      refine Pv.iload rfl rfl ?_
      refine Pv.astk (k := 0) (z := jw (jr T L S k) (L k)) rfl (rfl) (rfl) ?_
      refine Pv.aload rfl rfl ?_
      refine Pv.getR (v := .ref 44) rfl rfl (GW.at (a := 0) (k := 12) (b := 44) gw2 (by decide)) ?_
      refine Pv.lit rfl ?_
      refine Pv.iload rfl rfl ?_
      refine Pv.astk (k := 1) (z := Int32.ofNat k) rfl (rfl) (rfl) ?_
      refine Pv.iload rfl rfl ?_
      have hw : ¬ jw (jr T L S k) (L k) = 0 := c7
      have en : m_fst (jP T L S) n = some k := m_fst_e hb (show (!decide (jw (jr T L S k) (L k) = 0)) = true by rw [decide_eq_false hw]; rfl) hlt
      have es : js T (jr T L S k) (L k) = jr T L S k := js_w (hK k hlt).1 hw
      have x3 : SHR G2 20 (t_m T) (js T (jr T L S k) (L k)) := x2
      rw [es] at x3
      exact Pv.ret rfl (by rw [hQ]; exact ⟨by rw [en]; rfl, (((hx.tr x1).wd (P' := fun q => (20 ≤ q ∧ q ≤ 27) ∨ (7 ≤ q ∧ q ≤ 9) ∨ q = 44) (fun q c => c.elim Or.inl (fun e => Or.inr (Or.inl e)))).fp (Or.inr (Or.inr rfl))).fp (Or.inr (Or.inr rfl)), by rw [en]; exact (SHR.fx (P := fun q => q = 44) x3 (((FX.rf (P := fun q => q = 44)).fp rfl).fp rfl) (fun q h1 h2 (c : q = 44) => by omega)), by rw [en]; exact (fp_ne (Or.inr (by decide))).trans fp_eq, by rw [en]; exact fp_eq, fun j h0 h1 => (fp_ne (Or.inr h1)).trans ((fp_ne (Or.inr h0)).trans ((hx.tr x1).1 44 j (by decide)))⟩)
end
-- 63.b87a.lean.txt
section
set_option maxRecDepth 100000 in
set_option maxHeartbeats 4000000 in
theorem r_does0 {F : FW} {T : St} {S : Sh} {g s x : Nat} (hT : XT F T) (hS : XS F (t_m T) S) (hG : GW F) (hk12 : 2 * g + s < 12) (hx250 : x ≤ 250) : Pm Z_X11_does [.ref 69, .int 0, .int (Int32.ofNat g), .int (Int32.ofNat s), .int (Int32.ofNat x)] F (fun r F' => r = some (.int (jw S (0, 2 * g + s, x))) ∧ RXS F F' ∧ XS F' (t_m T) (js T S (0, 2 * g + s, x))) := by
  refine Pm.of fun N => ?_
  obtain ⟨Q, hQ⟩ : ∃ Q : Option Value → FW → Prop, Q = (fun r F' => r = some (.int (jw S (0, 2 * g + s, x))) ∧ RXS F F' ∧ XS F' (t_m T) (js T S (0, 2 * g + s, x))) := ⟨_, rfl⟩
  rw [← hQ]
  have b3 := hT.mb
  have b4 := hT.nb
  have b5 := hT.gb
  have b6 := m_from_lt S
  have b7 := hS.db
  refine (show Pv (ab_T (L_X11_does Z_X11_cell Z_X11_isDead Z_X11_whyBare Z_X11_whyHoard Z_X11_hoards Z_X11_goesOn)) N 0 [some (.ref 69), some (.int 0), some (.int (Int32.ofNat g)), some (.int (Int32.ofNat s)), some (.int (Int32.ofNat x)), none, none] [] F Q from ?_)
  refine Pv.iload rfl rfl ?_
  refine Pv.iload rfl rfl ?_
  refine Pv.callI (as := [.int (Int32.ofNat g), .int (Int32.ofNat s)]) (rest := []) (z := Int32.ofNat (2 * g + s)) rfl rfl rfl (g_cell (g := g) (s := s)) ?_
  refine Pv.istore (lo' := [some (.ref 69), some (.int 0), some (.int (Int32.ofNat g)), some (.int (Int32.ofNat s)), some (.int (Int32.ofNat x)), some (.int (Int32.ofNat (2 * g + s))), none]) rfl rfl ?_
  refine Pv.iload rfl rfl ?_
  refine Pv.lit rfl ?_
  refine Pv.icmp rfl (fun c1 => ?_) (fun c1 => ?_)
  · skip
    replace c1 : decide ((0 : Int32) = 3) = false := by simpa using c1
    replace c1 := mt (i_eq (a := 0) (b := 3) (by omega) (by omega)).mpr (of_decide_eq_false c1)
    refine Pv.iload rfl rfl ?_
    refine Pv.lit rfl ?_
    refine Pv.icmp rfl (fun c2 => ?_) (fun c2 => ?_)
    · skip
      replace c2 : decide ((0 : Int32) = 4) = false := by simpa using c2
      replace c2 := mt (i_eq (a := 0) (b := 4) (by omega) (by omega)).mpr (of_decide_eq_false c2)
      refine Pv.iload rfl rfl ?_
      refine Pv.lit rfl ?_
      refine Pv.icmp rfl (fun c3 => ?_) (fun c3 => ?_)
      · skip
        replace c3 : decide ((0 : Int32) = 1) = false := by simpa using c3
        replace c3 := mt (i_eq (a := 0) (b := 1) (by omega) (by omega)).mpr (of_decide_eq_false c3)
        refine Pv.aload rfl rfl ?_
        refine Pv.iload rfl rfl ?_
        refine Pv.iload rfl rfl ?_
        refine Pv.callVI (as := [.ref 69, .int (Int32.ofNat (2 * g + s)), .int (Int32.ofNat x)]) (rest := []) (z := m_why 0 S (2 * g + s) (Int32.ofNat x)) rfl rfl rfl (g_whyHoard (k := 2 * g + s) (n := Int32.ofNat x) hS hG (by omega)) ?_
        refine Pv.istore (lo' := [some (.ref 69), some (.int 0), some (.int (Int32.ofNat g)), some (.int (Int32.ofNat s)), some (.int (Int32.ofNat x)), some (.int (Int32.ofNat (2 * g + s))), some (.int (m_why 0 S (2 * g + s) (Int32.ofNat x)))]) rfl rfl ?_
        refine Pv.iload rfl rfl ?_
        refine Pv.if0 rfl (fun c4 => ?_) (fun c4 => ?_)
        · skip
          replace c4 := of_decide_eq_true c4
          refine Pv.iload rfl rfl ?_
          refine Pv.if0 rfl (fun c5 => ?_) (fun c5 => ?_)
          · skip
            replace c5 : decide ((0 : Int32) = 0) = false := by simpa using c5
            replace c5 := mt (i_eq (a := 0) (b := 0) (by omega) (by omega)).mpr (of_decide_eq_false c5)
            omega
          · skip
            replace c5 : decide ((0 : Int32) = 0) = true := by simpa using c5
            replace c5 := (i_eq (a := 0) (b := 0) (by omega) (by omega)).mp (of_decide_eq_true c5)
            refine Pv.aload rfl rfl ?_
            refine Pv.iload rfl rfl ?_
            refine Pv.iload rfl rfl ?_
            refine Pv.callVU (as := [.ref 69, .int (Int32.ofNat (2 * g + s)), .int (Int32.ofNat x)]) (rest := []) rfl rfl rfl (g_hoards (k := 2 * g + s) (n := Int32.ofNat x) hS hG (by omega)) ?_
            refine Pv.goto rfl ?_
            refine Pv.lit rfl ?_
            have ew : m_why 0 S (2 * g + s) (Int32.ofNat x) = 0 := (why_le (d := 0) (by decide)).mp c4
            exact Pv.ret rfl (by rw [hQ]; exact ⟨by unfold jw; rw [if_neg (show ¬ 0 = 4 by decide), if_pos ew]; first | done | rfl, (RXS.st (RXS.st RXS.rf (by omega) (by omega)) (by omega) (by omega)), by unfold js; rw [if_neg (show ¬ 0 = 4 by decide), try_y (d := 0) ew]; exact XS.do0 hS b3 (by omega)⟩)
        · skip
          replace c4 := of_decide_eq_false c4
          refine Pv.lit rfl ?_
          refine Pv.iload rfl rfl ?_
          refine Pv.bin (z := Int32.ofNat (10 * 0)) rfl (i_mul 10 0) ?_
          refine Pv.iload rfl rfl ?_
          refine Pv.bin (z := (Int32.ofNat (10 * 0)) + (m_why 0 S (2 * g + s) (Int32.ofNat x))) rfl (rfl) ?_
          have ew : ¬ m_why 0 S (2 * g + s) (Int32.ofNat x) = 0 := fun e => c4 ((why_le (d := 0) (by decide)).mpr e)
          exact Pv.ret rfl (by rw [hQ]; exact ⟨by unfold jw; rw [if_neg (show ¬ 0 = 4 by decide), if_neg ew]; first | done | rfl, RXS.rf, by unfold js; rw [if_neg (show ¬ 0 = 4 by decide), try_n (d := 0) ew]; exact hS⟩)
      · skip
        replace c3 : decide ((0 : Int32) = 1) = true := by simpa using c3
        replace c3 := (i_eq (a := 0) (b := 1) (by omega) (by omega)).mp (of_decide_eq_true c3)
        omega
    · skip
      replace c2 : decide ((0 : Int32) = 4) = true := by simpa using c2
      replace c2 := (i_eq (a := 0) (b := 4) (by omega) (by omega)).mp (of_decide_eq_true c2)
      omega
  · skip
    replace c1 : decide ((0 : Int32) = 3) = true := by simpa using c1
    replace c1 := (i_eq (a := 0) (b := 3) (by omega) (by omega)).mp (of_decide_eq_true c1)
    omega
set_option maxRecDepth 100000 in
set_option maxHeartbeats 4000000 in
theorem r_does1 {F : FW} {T : St} {S : Sh} {g s x : Nat} (hT : XT F T) (hS : XS F (t_m T) S) (hG : GW F) (hk12 : 2 * g + s < 12) (hx250 : x ≤ 250) : Pm Z_X11_does [.ref 69, .int 1, .int (Int32.ofNat g), .int (Int32.ofNat s), .int (Int32.ofNat x)] F (fun r F' => r = some (.int (jw S (1, 2 * g + s, x))) ∧ RXS F F' ∧ XS F' (t_m T) (js T S (1, 2 * g + s, x))) := by
  refine Pm.of fun N => ?_
  obtain ⟨Q, hQ⟩ : ∃ Q : Option Value → FW → Prop, Q = (fun r F' => r = some (.int (jw S (1, 2 * g + s, x))) ∧ RXS F F' ∧ XS F' (t_m T) (js T S (1, 2 * g + s, x))) := ⟨_, rfl⟩
  rw [← hQ]
  have b3 := hT.mb
  have b4 := hT.nb
  have b5 := hT.gb
  have b6 := m_from_lt S
  have b7 := hS.db
  refine (show Pv (ab_T (L_X11_does Z_X11_cell Z_X11_isDead Z_X11_whyBare Z_X11_whyHoard Z_X11_hoards Z_X11_goesOn)) N 0 [some (.ref 69), some (.int 1), some (.int (Int32.ofNat g)), some (.int (Int32.ofNat s)), some (.int (Int32.ofNat x)), none, none] [] F Q from ?_)
  refine Pv.iload rfl rfl ?_
  refine Pv.iload rfl rfl ?_
  refine Pv.callI (as := [.int (Int32.ofNat g), .int (Int32.ofNat s)]) (rest := []) (z := Int32.ofNat (2 * g + s)) rfl rfl rfl (g_cell (g := g) (s := s)) ?_
  refine Pv.istore (lo' := [some (.ref 69), some (.int 1), some (.int (Int32.ofNat g)), some (.int (Int32.ofNat s)), some (.int (Int32.ofNat x)), some (.int (Int32.ofNat (2 * g + s))), none]) rfl rfl ?_
  refine Pv.iload rfl rfl ?_
  refine Pv.lit rfl ?_
  refine Pv.icmp rfl (fun c1 => ?_) (fun c1 => ?_)
  · skip
    replace c1 : decide ((1 : Int32) = 3) = false := by simpa using c1
    replace c1 := mt (i_eq (a := 1) (b := 3) (by omega) (by omega)).mpr (of_decide_eq_false c1)
    refine Pv.iload rfl rfl ?_
    refine Pv.lit rfl ?_
    refine Pv.icmp rfl (fun c2 => ?_) (fun c2 => ?_)
    · skip
      replace c2 : decide ((1 : Int32) = 4) = false := by simpa using c2
      replace c2 := mt (i_eq (a := 1) (b := 4) (by omega) (by omega)).mpr (of_decide_eq_false c2)
      refine Pv.iload rfl rfl ?_
      refine Pv.lit rfl ?_
      refine Pv.icmp rfl (fun c3 => ?_) (fun c3 => ?_)
      · skip
        replace c3 : decide ((1 : Int32) = 1) = false := by simpa using c3
        replace c3 := mt (i_eq (a := 1) (b := 1) (by omega) (by omega)).mpr (of_decide_eq_false c3)
        omega
      · skip
        replace c3 : decide ((1 : Int32) = 1) = true := by simpa using c3
        replace c3 := (i_eq (a := 1) (b := 1) (by omega) (by omega)).mp (of_decide_eq_true c3)
        refine Pv.aload rfl rfl ?_
        refine Pv.iload rfl rfl ?_
        refine Pv.iload rfl rfl ?_
        refine Pv.callVI (as := [.ref 69, .int (Int32.ofNat (2 * g + s)), .int (Int32.ofNat x)]) (rest := []) (z := m_why 1 S (2 * g + s) (Int32.ofNat x)) rfl rfl rfl (g_whyBare (k := 2 * g + s) (n := Int32.ofNat x) hS hG (by omega)) ?_
        refine Pv.goto rfl ?_
        refine Pv.istore (lo' := [some (.ref 69), some (.int 1), some (.int (Int32.ofNat g)), some (.int (Int32.ofNat s)), some (.int (Int32.ofNat x)), some (.int (Int32.ofNat (2 * g + s))), some (.int (m_why 1 S (2 * g + s) (Int32.ofNat x)))]) rfl rfl ?_
        refine Pv.iload rfl rfl ?_
        refine Pv.if0 rfl (fun c4 => ?_) (fun c4 => ?_)
        · skip
          replace c4 := of_decide_eq_true c4
          refine Pv.iload rfl rfl ?_
          refine Pv.if0 rfl (fun c5 => ?_) (fun c5 => ?_)
          · skip
            replace c5 : decide ((1 : Int32) = 0) = false := by simpa using c5
            replace c5 := mt (i_eq (a := 1) (b := 0) (by omega) (by omega)).mpr (of_decide_eq_false c5)
            refine Pv.iload rfl rfl ?_
            refine Pv.lit rfl ?_
            refine Pv.icmp rfl (fun c6 => ?_) (fun c6 => ?_)
            · skip
              replace c6 : decide ((1 : Int32) = 1) = false := by simpa using c6
              replace c6 := mt (i_eq (a := 1) (b := 1) (by omega) (by omega)).mpr (of_decide_eq_false c6)
              omega
            · skip
              replace c6 : decide ((1 : Int32) = 1) = true := by simpa using c6
              replace c6 := (i_eq (a := 1) (b := 1) (by omega) (by omega)).mp (of_decide_eq_true c6)
              refine Pv.aload rfl rfl ?_
              refine Pv.iload rfl rfl ?_
              refine Pv.iload rfl rfl ?_
              refine Pv.un (z := -(Int32.ofNat x)) rfl (rfl) ?_
              refine Pv.callVU (as := [.ref 69, .int (Int32.ofNat (2 * g + s)), .int (-(Int32.ofNat x))]) (rest := []) rfl rfl rfl (g_hoards (k := 2 * g + s) (n := -(Int32.ofNat x)) hS hG (by omega)) ?_
              refine Pv.goto rfl ?_
              refine Pv.lit rfl ?_
              have ew : m_why 1 S (2 * g + s) (Int32.ofNat x) = 0 := (why_le (d := 1) (by decide)).mp c4
              exact Pv.ret rfl (by rw [hQ]; exact ⟨by unfold jw; rw [if_neg (show ¬ 1 = 4 by decide), if_pos ew]; first | done | rfl, (RXS.st (RXS.st RXS.rf (by omega) (by omega)) (by omega) (by omega)), by unfold js; rw [if_neg (show ¬ 1 = 4 by decide), try_y (d := 1) ew]; exact XS.do1 hS b3 (by omega)⟩)
          · skip
            replace c5 : decide ((1 : Int32) = 0) = true := by simpa using c5
            replace c5 := (i_eq (a := 1) (b := 0) (by omega) (by omega)).mp (of_decide_eq_true c5)
            omega
        · skip
          replace c4 := of_decide_eq_false c4
          refine Pv.lit rfl ?_
          refine Pv.iload rfl rfl ?_
          refine Pv.bin (z := Int32.ofNat (10 * 1)) rfl (i_mul 10 1) ?_
          refine Pv.iload rfl rfl ?_
          refine Pv.bin (z := (Int32.ofNat (10 * 1)) + (m_why 1 S (2 * g + s) (Int32.ofNat x))) rfl (rfl) ?_
          have ew : ¬ m_why 1 S (2 * g + s) (Int32.ofNat x) = 0 := fun e => c4 ((why_le (d := 1) (by decide)).mpr e)
          exact Pv.ret rfl (by rw [hQ]; exact ⟨by unfold jw; rw [if_neg (show ¬ 1 = 4 by decide), if_neg ew]; first | done | rfl, RXS.rf, by unfold js; rw [if_neg (show ¬ 1 = 4 by decide), try_n (d := 1) ew]; exact hS⟩)
    · skip
      replace c2 : decide ((1 : Int32) = 4) = true := by simpa using c2
      replace c2 := (i_eq (a := 1) (b := 4) (by omega) (by omega)).mp (of_decide_eq_true c2)
      omega
  · skip
    replace c1 : decide ((1 : Int32) = 3) = true := by simpa using c1
    replace c1 := (i_eq (a := 1) (b := 3) (by omega) (by omega)).mp (of_decide_eq_true c1)
    omega
set_option maxRecDepth 100000 in
set_option maxHeartbeats 4000000 in
theorem r_does2 {F : FW} {T : St} {S : Sh} {g s x : Nat} (hT : XT F T) (hS : XS F (t_m T) S) (hG : GW F) (hk12 : 2 * g + s < 12) (hx250 : x ≤ 250) : Pm Z_X11_does [.ref 69, .int 2, .int (Int32.ofNat g), .int (Int32.ofNat s), .int (Int32.ofNat x)] F (fun r F' => r = some (.int (jw S (2, 2 * g + s, x))) ∧ RXS F F' ∧ XS F' (t_m T) (js T S (2, 2 * g + s, x))) := by
  refine Pm.of fun N => ?_
  obtain ⟨Q, hQ⟩ : ∃ Q : Option Value → FW → Prop, Q = (fun r F' => r = some (.int (jw S (2, 2 * g + s, x))) ∧ RXS F F' ∧ XS F' (t_m T) (js T S (2, 2 * g + s, x))) := ⟨_, rfl⟩
  rw [← hQ]
  have b3 := hT.mb
  have b4 := hT.nb
  have b5 := hT.gb
  have b6 := m_from_lt S
  have b7 := hS.db
  refine (show Pv (ab_T (L_X11_does Z_X11_cell Z_X11_isDead Z_X11_whyBare Z_X11_whyHoard Z_X11_hoards Z_X11_goesOn)) N 0 [some (.ref 69), some (.int 2), some (.int (Int32.ofNat g)), some (.int (Int32.ofNat s)), some (.int (Int32.ofNat x)), none, none] [] F Q from ?_)
  refine Pv.iload rfl rfl ?_
  refine Pv.iload rfl rfl ?_
  refine Pv.callI (as := [.int (Int32.ofNat g), .int (Int32.ofNat s)]) (rest := []) (z := Int32.ofNat (2 * g + s)) rfl rfl rfl (g_cell (g := g) (s := s)) ?_
  refine Pv.istore (lo' := [some (.ref 69), some (.int 2), some (.int (Int32.ofNat g)), some (.int (Int32.ofNat s)), some (.int (Int32.ofNat x)), some (.int (Int32.ofNat (2 * g + s))), none]) rfl rfl ?_
  refine Pv.iload rfl rfl ?_
  refine Pv.lit rfl ?_
  refine Pv.icmp rfl (fun c1 => ?_) (fun c1 => ?_)
  · skip
    replace c1 : decide ((2 : Int32) = 3) = false := by simpa using c1
    replace c1 := mt (i_eq (a := 2) (b := 3) (by omega) (by omega)).mpr (of_decide_eq_false c1)
    refine Pv.iload rfl rfl ?_
    refine Pv.lit rfl ?_
    refine Pv.icmp rfl (fun c2 => ?_) (fun c2 => ?_)
    · skip
      replace c2 : decide ((2 : Int32) = 4) = false := by simpa using c2
      replace c2 := mt (i_eq (a := 2) (b := 4) (by omega) (by omega)).mpr (of_decide_eq_false c2)
      refine Pv.iload rfl rfl ?_
      refine Pv.lit rfl ?_
      refine Pv.icmp rfl (fun c3 => ?_) (fun c3 => ?_)
      · skip
        replace c3 : decide ((2 : Int32) = 1) = false := by simpa using c3
        replace c3 := mt (i_eq (a := 2) (b := 1) (by omega) (by omega)).mpr (of_decide_eq_false c3)
        refine Pv.aload rfl rfl ?_
        refine Pv.iload rfl rfl ?_
        refine Pv.iload rfl rfl ?_
        refine Pv.callVI (as := [.ref 69, .int (Int32.ofNat (2 * g + s)), .int (Int32.ofNat x)]) (rest := []) (z := m_why 0 S (2 * g + s) (Int32.ofNat x)) rfl rfl rfl (g_whyHoard (k := 2 * g + s) (n := Int32.ofNat x) hS hG (by omega)) ?_
        refine Pv.istore (lo' := [some (.ref 69), some (.int 2), some (.int (Int32.ofNat g)), some (.int (Int32.ofNat s)), some (.int (Int32.ofNat x)), some (.int (Int32.ofNat (2 * g + s))), some (.int (m_why 0 S (2 * g + s) (Int32.ofNat x)))]) rfl rfl ?_
        refine Pv.iload rfl rfl ?_
        refine Pv.if0 rfl (fun c4 => ?_) (fun c4 => ?_)
        · skip
          replace c4 := of_decide_eq_true c4
          refine Pv.iload rfl rfl ?_
          refine Pv.if0 rfl (fun c5 => ?_) (fun c5 => ?_)
          · skip
            replace c5 : decide ((2 : Int32) = 0) = false := by simpa using c5
            replace c5 := mt (i_eq (a := 2) (b := 0) (by omega) (by omega)).mpr (of_decide_eq_false c5)
            refine Pv.iload rfl rfl ?_
            refine Pv.lit rfl ?_
            refine Pv.icmp rfl (fun c6 => ?_) (fun c6 => ?_)
            · skip
              replace c6 : decide ((2 : Int32) = 1) = false := by simpa using c6
              replace c6 := mt (i_eq (a := 2) (b := 1) (by omega) (by omega)).mpr (of_decide_eq_false c6)
              refine Pv.iload rfl rfl ?_
              refine Pv.lit rfl ?_
              refine Pv.icmp rfl (fun c7 => ?_) (fun c7 => ?_)
              · skip
                replace c7 : decide ((2 : Int32) = 2) = false := by simpa using c7
                replace c7 := mt (i_eq (a := 2) (b := 2) (by omega) (by omega)).mpr (of_decide_eq_false c7)
                omega
              · skip
                replace c7 : decide ((2 : Int32) = 2) = true := by simpa using c7
                replace c7 := (i_eq (a := 2) (b := 2) (by omega) (by omega)).mp (of_decide_eq_true c7)
                refine Pv.aload rfl rfl ?_
                refine Pv.getR (v := .ref 71) rfl rfl (GW.at (a := 69) (k := 6) (b := 71) hG (by decide)) ?_
                refine Pv.lit rfl ?_
                refine Pv.iload rfl rfl ?_
                refine Pv.bin (z := Int32.ofNat (124 + (2 * g + s))) rfl (i_add 124 (2 * g + s)) ?_
                refine Pv.dup2 rfl ?_
                refine Pv.ald (z := h_s S (2 * g + s)) rfl (by rw [i_toNat (by omega)]; exact hS.s _ (by omega)) ?_
                refine Pv.iload rfl rfl ?_
                refine Pv.bin (z := (h_s S (2 * g + s)) - (Int32.ofNat x)) rfl (rfl) ?_
                refine Pv.astk (k := 124 + (2 * g + s)) (z := (h_s S (2 * g + s)) - (Int32.ofNat x)) rfl (i_toNat (by omega)) (rfl) ?_
                refine Pv.goto rfl ?_
                refine Pv.lit rfl ?_
                have ew : m_why 2 S (2 * g + s) (Int32.ofNat x) = 0 := (why_le (d := 0) (by decide)).mp c4
                exact Pv.ret rfl (by rw [hQ]; exact ⟨by unfold jw; rw [if_neg (show ¬ 2 = 4 by decide), if_pos ew]; first | done | rfl, (RXS.st RXS.rf (by omega) (by omega)), by unfold js; rw [if_neg (show ¬ 2 = 4 by decide), try_y (d := 2) ew]; exact XS.do2 hS b3 (by omega)⟩)
            · skip
              replace c6 : decide ((2 : Int32) = 1) = true := by simpa using c6
              replace c6 := (i_eq (a := 2) (b := 1) (by omega) (by omega)).mp (of_decide_eq_true c6)
              omega
          · skip
            replace c5 : decide ((2 : Int32) = 0) = true := by simpa using c5
            replace c5 := (i_eq (a := 2) (b := 0) (by omega) (by omega)).mp (of_decide_eq_true c5)
            omega
        · skip
          replace c4 := of_decide_eq_false c4
          refine Pv.lit rfl ?_
          refine Pv.iload rfl rfl ?_
          refine Pv.bin (z := Int32.ofNat (10 * 2)) rfl (i_mul 10 2) ?_
          refine Pv.iload rfl rfl ?_
          refine Pv.bin (z := (Int32.ofNat (10 * 2)) + (m_why 0 S (2 * g + s) (Int32.ofNat x))) rfl (rfl) ?_
          have ew : ¬ m_why 2 S (2 * g + s) (Int32.ofNat x) = 0 := fun e => c4 ((why_le (d := 0) (by decide)).mpr e)
          exact Pv.ret rfl (by rw [hQ]; exact ⟨by unfold jw; rw [if_neg (show ¬ 2 = 4 by decide), if_neg ew]; first | done | rfl, RXS.rf, by unfold js; rw [if_neg (show ¬ 2 = 4 by decide), try_n (d := 2) ew]; exact hS⟩)
      · skip
        replace c3 : decide ((2 : Int32) = 1) = true := by simpa using c3
        replace c3 := (i_eq (a := 2) (b := 1) (by omega) (by omega)).mp (of_decide_eq_true c3)
        omega
    · skip
      replace c2 : decide ((2 : Int32) = 4) = true := by simpa using c2
      replace c2 := (i_eq (a := 2) (b := 4) (by omega) (by omega)).mp (of_decide_eq_true c2)
      omega
  · skip
    replace c1 : decide ((2 : Int32) = 3) = true := by simpa using c1
    replace c1 := (i_eq (a := 2) (b := 3) (by omega) (by omega)).mp (of_decide_eq_true c1)
    omega
end
-- 63.b87b.lean.txt
section
set_option maxRecDepth 100000 in
set_option maxHeartbeats 4000000 in
theorem g_cellx {F : FW} (x y : Int32) : Pm Z_X11_cell [.int x, .int y] F (fun r F' => (∃ z, r = some (.int z)) ∧ F' = F) := by
  refine Pm.of fun N => ?_
  obtain ⟨Q, hQ⟩ : ∃ Q : Option Value → FW → Prop, Q = (fun r F' => (∃ z, r = some (.int z)) ∧ F' = F) := ⟨_, rfl⟩
  rw [← hQ]
  refine (show Pv (ab_T L_X11_cell) N 0 [some (.int x), some (.int y)] [] F Q from ?_)
  refine Pv.lit rfl ?_
  refine Pv.iload rfl rfl ?_
  refine Pv.bin (z := 2 * x) rfl (rfl) ?_
  refine Pv.iload rfl rfl ?_
  refine Pv.bin (z := (2 * x) + y) rfl (rfl) ?_
  exact Pv.ret rfl (by rw [hQ]; exact ⟨⟨_, rfl⟩, rfl⟩)
set_option maxRecDepth 100000 in
set_option maxHeartbeats 4000000 in
theorem r_does4 {F : FW} {T : St} {S : Sh} {x : Nat} (hT : XT F T) (hS : XS F (t_m T) S) (hG : GW F) (hTB : TBB T) (hI : INV T S) (hx60 : x ≤ 60) (u v : Int32) : Pm Z_X11_does [.ref 69, .int 4, .int (Int32.ofNat x), .int u, .int v] F (fun r F' => r = some (.int (jw S (4, 0, x))) ∧ RXS F F' ∧ XS F' (t_m T) (js T S (4, 0, x))) := by
  refine Pm.of fun N => ?_
  obtain ⟨Q, hQ⟩ : ∃ Q : Option Value → FW → Prop, Q = (fun r F' => r = some (.int (jw S (4, 0, x))) ∧ RXS F F' ∧ XS F' (t_m T) (js T S (4, 0, x))) := ⟨_, rfl⟩
  rw [← hQ]
  have b3 := hT.mb
  have b4 := hT.nb
  have b5 := hT.gb
  have b6 := m_from_lt S
  have b7 := hS.db
  refine (show Pv (ab_T (L_X11_does Z_X11_cell Z_X11_isDead Z_X11_whyBare Z_X11_whyHoard Z_X11_hoards Z_X11_goesOn)) N 0 [some (.ref 69), some (.int 4), some (.int (Int32.ofNat x)), some (.int u), some (.int v), none, none] [] F Q from ?_)
  refine Pv.iload rfl rfl ?_
  refine Pv.iload rfl rfl ?_
  refine Pv.call (as := [.int (Int32.ofNat x), .int u]) (rest := []) rfl rfl rfl (g_cellx (Int32.ofNat x) u) ?_
  rintro _ Fe ⟨⟨z1, rfl⟩, ee⟩
  obtain rfl := ee.symm
  refine (show Pv _ _ 5 [some (.ref 69), some (.int 4), some (.int (Int32.ofNat x)), some (.int u), some (.int v), none, none] [.int z1] F Q from ?_)
  refine Pv.istore (lo' := [some (.ref 69), some (.int 4), some (.int (Int32.ofNat x)), some (.int u), some (.int v), some (.int z1), none]) rfl rfl ?_
  refine Pv.iload rfl rfl ?_
  refine Pv.lit rfl ?_
  refine Pv.icmp rfl (fun c2 => ?_) (fun c2 => ?_)
  · skip
    replace c2 : decide ((4 : Int32) = 3) = false := by simpa using c2
    replace c2 := mt (i_eq (a := 4) (b := 3) (by omega) (by omega)).mpr (of_decide_eq_false c2)
    refine Pv.iload rfl rfl ?_
    refine Pv.lit rfl ?_
    refine Pv.icmp rfl (fun c3 => ?_) (fun c3 => ?_)
    · skip
      replace c3 : decide ((4 : Int32) = 4) = false := by simpa using c3
      replace c3 := mt (i_eq (a := 4) (b := 4) (by omega) (by omega)).mpr (of_decide_eq_false c3)
      omega
    · skip
      replace c3 : decide ((4 : Int32) = 4) = true := by simpa using c3
      replace c3 := (i_eq (a := 4) (b := 4) (by omega) (by omega)).mp (of_decide_eq_true c3)
      refine Pv.aload rfl rfl ?_
      refine Pv.getR (v := .ref 71) rfl rfl (GW.at (a := 69) (k := 6) (b := 71) hG (by decide)) ?_
      refine Pv.lit rfl ?_
      refine Pv.ald (z := Int32.ofNat (h_d S)) rfl (hS.d) ?_
      refine Pv.iload rfl rfl ?_
      refine Pv.bin (z := Int32.ofNat ((h_d S) + x)) rfl (i_add (h_d S) x) ?_
      refine Pv.lit rfl ?_
      refine Pv.icmp rfl (fun c4 => ?_) (fun c4 => ?_)
      · skip
        replace c4 := (i_le (a := (h_d S) + x) (b := 400) (by omega) (by omega)).mp (of_decide_eq_true c4)
        refine Pv.lit rfl ?_
        refine Pv.goto rfl ?_
        refine Pv.istore (lo' := [some (.ref 69), some (.int 4), some (.int (Int32.ofNat x)), some (.int u), some (.int v), some (.int z1), some (.int 0)]) rfl rfl ?_
        refine Pv.iload rfl rfl ?_
        refine Pv.if0 rfl (fun c5 => ?_) (fun c5 => ?_)
        · skip
          replace c5 := (i_le (a := 0) (b := 0) (by omega) (by omega)).mp (of_decide_eq_true c5)
          refine Pv.iload rfl rfl ?_
          refine Pv.if0 rfl (fun c6 => ?_) (fun c6 => ?_)
          · skip
            replace c6 : decide ((4 : Int32) = 0) = false := by simpa using c6
            replace c6 := mt (i_eq (a := 4) (b := 0) (by omega) (by omega)).mpr (of_decide_eq_false c6)
            refine Pv.iload rfl rfl ?_
            refine Pv.lit rfl ?_
            refine Pv.icmp rfl (fun c7 => ?_) (fun c7 => ?_)
            · skip
              replace c7 : decide ((4 : Int32) = 1) = false := by simpa using c7
              replace c7 := mt (i_eq (a := 4) (b := 1) (by omega) (by omega)).mpr (of_decide_eq_false c7)
              refine Pv.iload rfl rfl ?_
              refine Pv.lit rfl ?_
              refine Pv.icmp rfl (fun c8 => ?_) (fun c8 => ?_)
              · skip
                replace c8 : decide ((4 : Int32) = 2) = false := by simpa using c8
                replace c8 := mt (i_eq (a := 4) (b := 2) (by omega) (by omega)).mpr (of_decide_eq_false c8)
                refine Pv.iload rfl rfl ?_
                refine Pv.lit rfl ?_
                refine Pv.icmp rfl (fun c9 => ?_) (fun c9 => ?_)
                · skip
                  replace c9 : decide ((4 : Int32) = 3) = false := by simpa using c9
                  replace c9 := mt (i_eq (a := 4) (b := 3) (by omega) (by omega)).mpr (of_decide_eq_false c9)
                  refine Pv.aload rfl rfl ?_
                  refine Pv.iload rfl rfl ?_
                  refine Pv.callV (as := [.ref 69, .int (Int32.ofNat x)]) (rest := []) rfl rfl rfl (g_goesOn (n := x) hT hS hG hTB (INV.sb hI) (by omega)) ?_
                  rintro _ G ⟨rfl, x1, x2⟩
                  refine (show Pv _ _ 177 [some (.ref 69), some (.int 4), some (.int (Int32.ofNat x)), some (.int u), some (.int v), some (.int z1), some (.int 0)] [.int (Int32.ofNat (h_d (m_days T S x) - h_d S))] G Q from ?_)
                  refine Pv.pop rfl ?_
                  refine Pv.lit rfl ?_
                  exact Pv.ret rfl (by rw [hQ]; exact ⟨by unfold jw; rw [if_pos (show 4 = 4 by decide), if_pos (show h_d S + x ≤ 400 by omega)], RXS.rx RXS.rf x1, by unfold js; rw [if_pos (show 4 = 4 by decide), if_pos (show h_d S + x ≤ 400 by omega)]; exact x2⟩)
                · skip
                  replace c9 : decide ((4 : Int32) = 3) = true := by simpa using c9
                  replace c9 := (i_eq (a := 4) (b := 3) (by omega) (by omega)).mp (of_decide_eq_true c9)
                  omega
              · skip
                replace c8 : decide ((4 : Int32) = 2) = true := by simpa using c8
                replace c8 := (i_eq (a := 4) (b := 2) (by omega) (by omega)).mp (of_decide_eq_true c8)
                omega
            · skip
              replace c7 : decide ((4 : Int32) = 1) = true := by simpa using c7
              replace c7 := (i_eq (a := 4) (b := 1) (by omega) (by omega)).mp (of_decide_eq_true c7)
              omega
          · skip
            replace c6 : decide ((4 : Int32) = 0) = true := by simpa using c6
            replace c6 := (i_eq (a := 4) (b := 0) (by omega) (by omega)).mp (of_decide_eq_true c6)
            omega
        · skip
          replace c5 := mt (i_le (a := 0) (b := 0) (by omega) (by omega)).mpr (of_decide_eq_false c5)
          omega
      · skip
        replace c4 := mt (i_le (a := (h_d S) + x) (b := 400) (by omega) (by omega)).mpr (of_decide_eq_false c4)
        refine Pv.lit rfl ?_
        refine Pv.goto rfl ?_
        refine Pv.istore (lo' := [some (.ref 69), some (.int 4), some (.int (Int32.ofNat x)), some (.int u), some (.int v), some (.int z1), some (.int 1)]) rfl rfl ?_
        refine Pv.iload rfl rfl ?_
        refine Pv.if0 rfl (fun c10 => ?_) (fun c10 => ?_)
        · skip
          replace c10 := (i_le (a := 1) (b := 0) (by omega) (by omega)).mp (of_decide_eq_true c10)
          omega
        · skip
          replace c10 := mt (i_le (a := 1) (b := 0) (by omega) (by omega)).mpr (of_decide_eq_false c10)
          refine Pv.lit rfl ?_
          refine Pv.iload rfl rfl ?_
          refine Pv.bin (z := Int32.ofNat (10 * 4)) rfl (i_mul 10 4) ?_
          refine Pv.iload rfl rfl ?_
          refine Pv.bin (z := Int32.ofNat ((10 * 4) + 1)) rfl (i_add (10 * 4) 1) ?_
          exact Pv.ret rfl (by rw [hQ]; exact ⟨by unfold jw; rw [if_pos (show 4 = 4 by decide), if_neg (show ¬ h_d S + x ≤ 400 by omega)]; first | done | rfl, RXS.rf, by unfold js; rw [if_pos (show 4 = 4 by decide), if_neg (show ¬ h_d S + x ≤ 400 by omega)]; exact hS⟩)
  · skip
    replace c2 : decide ((4 : Int32) = 3) = true := by simpa using c2
    replace c2 := (i_eq (a := 4) (b := 3) (by omega) (by omega)).mp (of_decide_eq_true c2)
    omega
end
-- 63.b87c.lean.txt
section
set_option maxRecDepth 100000 in
set_option maxHeartbeats 4000000 in
theorem r_does3 {F : FW} {T : St} {S : Sh} {w : Nat} (hT : XT F T) (hS : XS F (t_m T) S) (hG : GW F) (hw : w < t_m T) (u v : Int32) : Pm Z_X11_does [.ref 69, .int 3, .int (Int32.ofNat w), .int u, .int v] F (fun r F' => r = some (.int (jw S (3, w, 0))) ∧ RXS F F' ∧ XS F' (t_m T) (js T S (3, w, 0))) := by
  refine Pm.of fun N => ?_
  obtain ⟨Q, hQ⟩ : ∃ Q : Option Value → FW → Prop, Q = (fun r F' => r = some (.int (jw S (3, w, 0))) ∧ RXS F F' ∧ XS F' (t_m T) (js T S (3, w, 0))) := ⟨_, rfl⟩
  rw [← hQ]
  have b3 := hT.mb
  have b4 := hT.nb
  have b5 := hT.gb
  have b6 := m_from_lt S
  have b7 := hS.db
  refine (show Pv (ab_T (L_X11_does Z_X11_cell Z_X11_isDead Z_X11_whyBare Z_X11_whyHoard Z_X11_hoards Z_X11_goesOn)) N 0 [some (.ref 69), some (.int 3), some (.int (Int32.ofNat w)), some (.int u), some (.int v), none, none] [] F Q from ?_)
  refine Pv.iload rfl rfl ?_
  refine Pv.iload rfl rfl ?_
  refine Pv.call (as := [.int (Int32.ofNat w), .int u]) (rest := []) rfl rfl rfl (g_cellx (Int32.ofNat w) u) ?_
  rintro _ Fe ⟨⟨z1, rfl⟩, ee⟩
  obtain rfl := ee.symm
  refine (show Pv _ _ 5 [some (.ref 69), some (.int 3), some (.int (Int32.ofNat w)), some (.int u), some (.int v), none, none] [.int z1] F Q from ?_)
  refine Pv.istore (lo' := [some (.ref 69), some (.int 3), some (.int (Int32.ofNat w)), some (.int u), some (.int v), some (.int z1), none]) rfl rfl ?_
  refine Pv.iload rfl rfl ?_
  refine Pv.lit rfl ?_
  refine Pv.icmp rfl (fun c2 => ?_) (fun c2 => ?_)
  · skip
    replace c2 : decide ((3 : Int32) = 3) = false := by simpa using c2
    replace c2 := mt (i_eq (a := 3) (b := 3) (by omega) (by omega)).mpr (of_decide_eq_false c2)
    omega
  · skip
    replace c2 : decide ((3 : Int32) = 3) = true := by simpa using c2
    replace c2 := (i_eq (a := 3) (b := 3) (by omega) (by omega)).mp (of_decide_eq_true c2)
    refine Pv.aload rfl rfl ?_
    refine Pv.iload rfl rfl ?_
    refine Pv.callVI (as := [.ref 69, .int (Int32.ofNat w)]) (rest := []) (z := b2i (!m_alive S w)) rfl rfl rfl (g_isDead (o := 0) hS.xd hG hw) ?_
    refine Pv.if0 rfl (fun c3 => ?_) (fun c3 => ?_)
    · skip
      replace c3 := of_decide_eq_true c3
      replace c3 := b2z.mp c3
      refine Pv.lit rfl ?_
      refine Pv.goto rfl ?_
      refine Pv.istore (lo' := [some (.ref 69), some (.int 3), some (.int (Int32.ofNat w)), some (.int u), some (.int v), some (.int z1), some (.int 0)]) rfl rfl ?_
      refine Pv.iload rfl rfl ?_
      refine Pv.if0 rfl (fun c4 => ?_) (fun c4 => ?_)
      · skip
        replace c4 := (i_le (a := 0) (b := 0) (by omega) (by omega)).mp (of_decide_eq_true c4)
        refine Pv.iload rfl rfl ?_
        refine Pv.if0 rfl (fun c5 => ?_) (fun c5 => ?_)
        · skip
          replace c5 : decide ((3 : Int32) = 0) = false := by simpa using c5
          replace c5 := mt (i_eq (a := 3) (b := 0) (by omega) (by omega)).mpr (of_decide_eq_false c5)
          refine Pv.iload rfl rfl ?_
          refine Pv.lit rfl ?_
          refine Pv.icmp rfl (fun c6 => ?_) (fun c6 => ?_)
          · skip
            replace c6 : decide ((3 : Int32) = 1) = false := by simpa using c6
            replace c6 := mt (i_eq (a := 3) (b := 1) (by omega) (by omega)).mpr (of_decide_eq_false c6)
            refine Pv.iload rfl rfl ?_
            refine Pv.lit rfl ?_
            refine Pv.icmp rfl (fun c7 => ?_) (fun c7 => ?_)
            · skip
              replace c7 : decide ((3 : Int32) = 2) = false := by simpa using c7
              replace c7 := mt (i_eq (a := 3) (b := 2) (by omega) (by omega)).mpr (of_decide_eq_false c7)
              refine Pv.iload rfl rfl ?_
              refine Pv.lit rfl ?_
              refine Pv.icmp rfl (fun c8 => ?_) (fun c8 => ?_)
              · skip
                replace c8 : decide ((3 : Int32) = 3) = false := by simpa using c8
                replace c8 := mt (i_eq (a := 3) (b := 3) (by omega) (by omega)).mpr (of_decide_eq_false c8)
                omega
              · skip
                replace c8 : decide ((3 : Int32) = 3) = true := by simpa using c8
                replace c8 := (i_eq (a := 3) (b := 3) (by omega) (by omega)).mp (of_decide_eq_true c8)
                refine Pv.aload rfl rfl ?_
                refine Pv.getR (v := .ref 71) rfl rfl (GW.at (a := 69) (k := 6) (b := 71) hG (by decide)) ?_
                refine Pv.lit rfl ?_
                refine Pv.dup2 rfl ?_
                refine Pv.ald (z := F.1 71 180) rfl (rfl) ?_
                refine Pv.lit rfl ?_
                refine Pv.iload rfl rfl ?_
                refine Pv.bin (z := 1 <<< ((Int32.ofNat w) &&& 31)) rfl (rfl) ?_
                refine Pv.bin (z := (F.1 71 180) ||| (1 <<< ((Int32.ofNat w) &&& 31))) rfl (rfl) ?_
                refine Pv.astk (k := 180) (z := (F.1 71 180) ||| (1 <<< ((Int32.ofNat w) &&& 31))) rfl (rfl) (rfl) ?_
                refine Pv.goto rfl ?_
                refine Pv.lit rfl ?_
                have al : m_alive S w = true := by have q := c3; simpa using q
                have ew : m_why 3 S w (Int32.ofNat 0) = 0 := if_pos al
                exact Pv.ret rfl (by rw [hQ]; exact ⟨by unfold jw; rw [if_neg (show ¬ 3 = 4 by decide), if_pos ew], RXS.st RXS.rf (by omega) (by omega), by unfold js; rw [if_neg (show ¬ 3 = 4 by decide)]; exact XS.die3b hS b3 hw rfl⟩)
            · skip
              replace c7 : decide ((3 : Int32) = 2) = true := by simpa using c7
              replace c7 := (i_eq (a := 3) (b := 2) (by omega) (by omega)).mp (of_decide_eq_true c7)
              omega
          · skip
            replace c6 : decide ((3 : Int32) = 1) = true := by simpa using c6
            replace c6 := (i_eq (a := 3) (b := 1) (by omega) (by omega)).mp (of_decide_eq_true c6)
            omega
        · skip
          replace c5 : decide ((3 : Int32) = 0) = true := by simpa using c5
          replace c5 := (i_eq (a := 3) (b := 0) (by omega) (by omega)).mp (of_decide_eq_true c5)
          omega
      · skip
        replace c4 := mt (i_le (a := 0) (b := 0) (by omega) (by omega)).mpr (of_decide_eq_false c4)
        omega
    · skip
      replace c3 := of_decide_eq_false c3
      replace c3 := b2n.mp c3
      refine Pv.lit rfl ?_
      refine Pv.goto rfl ?_
      refine Pv.istore (lo' := [some (.ref 69), some (.int 3), some (.int (Int32.ofNat w)), some (.int u), some (.int v), some (.int z1), some (.int 1)]) rfl rfl ?_
      refine Pv.iload rfl rfl ?_
      refine Pv.if0 rfl (fun c9 => ?_) (fun c9 => ?_)
      · skip
        replace c9 := (i_le (a := 1) (b := 0) (by omega) (by omega)).mp (of_decide_eq_true c9)
        omega
      · skip
        replace c9 := mt (i_le (a := 1) (b := 0) (by omega) (by omega)).mpr (of_decide_eq_false c9)
        refine Pv.lit rfl ?_
        refine Pv.iload rfl rfl ?_
        refine Pv.bin (z := Int32.ofNat (10 * 3)) rfl (i_mul 10 3) ?_
        refine Pv.iload rfl rfl ?_
        refine Pv.bin (z := Int32.ofNat ((10 * 3) + 1)) rfl (i_add (10 * 3) 1) ?_
        have al : m_alive S w = false := by have q := c3; simpa using q
        have e1 : m_why 3 S w (Int32.ofNat 0) = 1 := if_neg (by rw [al]; decide)
        have ew : ¬ m_why 3 S w (Int32.ofNat 0) = 0 := by rw [e1]; decide
        exact Pv.ret rfl (by rw [hQ]; exact ⟨by unfold jw; rw [if_neg (show ¬ 3 = 4 by decide), if_neg ew, e1]; first | done | rfl, RXS.rf, by unfold js; rw [if_neg (show ¬ 3 = 4 by decide), try_n (d := 3) ew]; exact hS⟩)
end
-- 63.b88.rlt.lean.txt
section
/-! ===== the reference tries a LOG ===== -/
def RTL (F G : FW) : Prop := FX (fun q => q = 69 ∨ q = 71 ∨ q = 78 ∨ q = 81) F G ∧ (∀ k, k < 133 → G.1 78 k = F.1 71 (120 + k)) ∧ (∀ k, k < 120 ∨ 253 ≤ k → G.1 71 k = F.1 71 k) ∧ ∀ k, k ≠ 0 → k ≠ 22 → k ≠ 29 → k ≠ 32 → G.1 69 k = F.1 69 k
/-- laid back -/
def RTB (F G : FW) : Prop := FX (fun q => q = 69 ∨ q = 71 ∨ q = 78 ∨ q = 81) F G ∧ (∀ k, G.1 71 k = F.1 71 k) ∧ ∀ k, k ≠ 0 → k ≠ 22 → k ≠ 29 → k ≠ 32 → G.1 69 k = F.1 69 k
theorem RTL.of {F G : FW} (x : FX (fun q => q = 78) F G) (a : ∀ k, k < 133 → G.1 78 k = F.1 71 (120 + k)) : RTL F G :=
  ⟨x.wd fun q (c : q = 78) => Or.inr (Or.inr (Or.inl c)), a, fun k _ => x.1 71 k (by decide), fun k _ _ _ _ => x.1 69 k (by decide)⟩
theorem RTL.sx {F G K : FW} (h : RTL F G) (x : RXS G K) : RTL F K :=
  ⟨h.1.tr (x.1.wd fun q (c : q = 69 ∨ q = 71) => c.elim Or.inl (fun e => Or.inr (Or.inl e))), fun k hk => (x.1.1 78 k (by decide)).trans (h.2.1 k hk), fun k hk => (x.2.2 k hk).trans (h.2.2.1 k hk), fun k h1 h2 h3 h4 => (x.2.1 k h2 h3).trans (h.2.2.2 k h1 h2 h3 h4)⟩
theorem RTL.st {F G : FW} {k : Nat} {v : Int32} (h : RTL F G) : RTL F (fp G 81 k v) :=
  ⟨h.1.fp (Or.inr (Or.inr (Or.inr rfl))), fun j hj => (fp_ne (Or.inl (by decide))).trans (h.2.1 j hj), fun j hj => (fp_ne (Or.inl (by decide))).trans (h.2.2.1 j hj), fun j h1 h2 h3 h4 => (fp_ne (Or.inl (by decide))).trans (h.2.2.2 j h1 h2 h3 h4)⟩
theorem RTL.sd {F G : FW} {k : Nat} {v : Int32} (h : RTL F G) (c : k = 0 ∨ k = 22 ∨ k = 29 ∨ k = 32) : RTL F (fp G 69 k v) :=
  ⟨h.1.fp (Or.inl rfl), fun j hj => (fp_ne (Or.inl (by decide))).trans (h.2.1 j hj), fun j hj => (fp_ne (Or.inl (by decide))).trans (h.2.2.1 j hj), fun j h1 h2 h3 h4 => (fp_ne (Or.inr (by omega))).trans (h.2.2.2 j h1 h2 h3 h4)⟩
theorem RTL.T {F G : FW} {T : St} (h : RTL F G) (t : XT F T) : XT G T := t.of fun k hk => h.2.2.1 k (Or.inl hk)
theorem RTL.G {F G : FW} (h : RTL F G) (g : GW F) : GW G := g.fx h.1
theorem RTL.bk {F G K : FW} (h : RTL F G) (x : FX (fun q => q = 71) G K) (a : ∀ k, k < 133 → K.1 71 (120 + k) = G.1 78 k) (b : ∀ k, k < 120 ∨ 253 ≤ k → K.1 71 k = G.1 71 k) : RTB F K :=
  ⟨h.1.tr (x.wd fun q (c : q = 71) => Or.inr (Or.inl c)), fun k => by
    rcases Classical.em (k < 120 ∨ 253 ≤ k) with c | c
    · exact (b k c).trans (h.2.2.1 k c)
    · have e := (a (k - 120) (by omega)).trans (h.2.1 (k - 120) (by omega))
      rw [show 120 + (k - 120) = k by omega] at e
      exact e, fun k h1 h2 h3 h4 => (x.1 69 k (by decide)).trans (h.2.2.2 k h1 h2 h3 h4)⟩
end
-- 63.b88a.lean.txt
section

end
-- 63.b88b.lean.txt
section
set_option maxRecDepth 100000 in
set_option maxHeartbeats 4000000 in
theorem r_lg270 {F F0 : FW} {m p : Nat} {S : Sh} {H : Nat → Sh} {a : Int32} {o2 : Option Value} (hm8 : m ≤ 8) (hG : GW F) (hH : HSX F m (p + 1) H) (hS0 : XS F0 m S) (h78 : ∀ k, k < 133 → F.1 78 k = F0.1 71 (120 + k)) (N : Nat) : Pv (ab_T (L_X11_log Z_X11_isIn Z_X11_taken Z_X11_next Z_X11_logLine Z_X11_sign Z_X11_tries Z_X11_does Z_X11_keep Z_X11_back)) N 270 [some (.ref 69), some (.int 1), o2, some (.int a), some (.int (Int32.ofNat 0))] [] F (fun r F' => r = some (.int a) ∧ FX (fun q => q = 77) F F' ∧ HSX F' m (p + 1) (fun j => if j < p then H j else S)) := by
  obtain ⟨Q, hQ⟩ : ∃ Q : Option Value → FW → Prop, Q = (fun r F' => r = some (.int a) ∧ FX (fun q => q = 77) F F' ∧ HSX F' m (p + 1) (fun j => if j < p then H j else S)) := ⟨_, rfl⟩
  rw [← hQ]
  have hp8 := hH.2.1
  refine (show Pv (ab_T (L_X11_log Z_X11_isIn Z_X11_taken Z_X11_next Z_X11_logLine Z_X11_sign Z_X11_tries Z_X11_does Z_X11_keep Z_X11_back)) N 270 [some (.ref 69), some (.int 1), o2, some (.int a), some (.int (Int32.ofNat 0))] [] F Q from ?_)
  refine Pv.lp (ι := Nat × FW) (lof := fun ⟨k, G⟩ => [some (.ref 69), some (.int 1), o2, some (.int a), some (.int (Int32.ofNat k))]) (Ff := fun ⟨k, G⟩ => G) (P := fun ⟨k, G⟩ => (k ≤ 133) ∧ (FX (fun q => q = 77) F G) ∧ (∀ j, j < k → G.1 77 (133 * p + j) = F.1 78 j) ∧ (∀ j, j < 133 * p → G.1 77 j = F.1 77 j)) ?_ (0, F) (⟨Nat.zero_le _, FX.rf, fun j hj => absurd hj (Nat.not_lt_zero j), fun _ _ => rfl⟩)
  rintro N1 hN2 ⟨k, G⟩ hi3 ih4
  refine (show Pv _ _ 270 [some (.ref 69), some (.int 1), o2, some (.int a), some (.int (Int32.ofNat k))] [] G Q from ?_)
  obtain ⟨hk, hx, hA, hB⟩ := hi3
  have hx5 := GW.fx hG hx
  refine Pv.iloadS rfl rfl ?_
  refine Pv.lit rfl ?_
  refine Pv.icmp rfl (fun c6 => ?_) (fun c6 => ?_)
  · skip
    replace c6 := (i_le (a := 133) (b := k) (by omega) (by omega)).mp (of_decide_eq_true c6)
    refine Pv.iload rfl rfl ?_
    refine Pv.if0 rfl (fun c7 => ?_) (fun c7 => ?_)
    · skip
      replace c7 : decide ((1 : Int32) = 0) = false := by simpa using c7
      replace c7 := mt (i_eq (a := 1) (b := 0) (by omega) (by omega)).mpr (of_decide_eq_false c7)
      refine Pv.iload rfl rfl ?_
      have k133 : k = 133 := by omega
      refine Pv.ret rfl ?_
      rw [hQ]
      refine ⟨rfl, hx, (hx.1 69 25 (by decide)).trans hH.1, hH.2.1, fun j hj => ?_⟩
      dsimp only
      rcases Nat.lt_or_ge j p with q | q
      · rw [if_pos q]
        exact HSX.row hm8 (hH.2.2 j (by omega)) fun i hi => hB _ (by omega)
      · rw [if_neg (by omega)]
        obtain rfl : j = p := by omega
        exact HSX.put hm8 hS0 fun i hi => (hA i (by omega)).trans (h78 i hi)
    · skip
      replace c7 : decide ((1 : Int32) = 0) = true := by simpa using c7
      replace c7 := (i_eq (a := 1) (b := 0) (by omega) (by omega)).mp (of_decide_eq_true c7)
      omega
  · skip
    replace c6 := mt (i_le (a := 133) (b := k) (by omega) (by omega)).mpr (of_decide_eq_false c6)
    refine Pv.aload rfl rfl ?_
    refine Pv.getR (v := .ref 77) rfl rfl (GW.at (a := 69) (k := 23) (b := 77) hx5 (by decide)) ?_
    refine Pv.lit rfl ?_
    refine Pv.aload rfl rfl ?_
    refine Pv.getI (z := Int32.ofNat (p + 1)) rfl rfl ((hx.1 69 25 (by decide)).trans hH.1) ?_
    refine Pv.lit rfl ?_
    refine Pv.bin (z := Int32.ofNat p) rfl (i_subN (a := p + 1) (b := 1) (by omega)) ?_
    refine Pv.bin (z := Int32.ofNat (133 * p)) rfl (i_mul 133 p) ?_
    refine Pv.iload rfl rfl ?_
    refine Pv.bin (z := Int32.ofNat ((133 * p) + k)) rfl (i_add (133 * p) k) ?_
    refine Pv.aload rfl rfl ?_
    refine Pv.getR (v := .ref 78) rfl rfl (GW.at (a := 69) (k := 24) (b := 78) hx5 (by decide)) ?_
    refine Pv.iload rfl rfl ?_
    refine Pv.ald (z := F.1 78 k) rfl (by rw [i_toNat (by omega)]; exact hx.1 78 _ (by decide)) ?_
    refine Pv.astk (k := (133 * p) + k) (z := F.1 78 k) rfl (i_toNat (by omega)) (rfl) ?_
    refine Pv.iinc (y := Int32.ofNat (k + 1)) (lo' := [some (.ref 69), some (.int 1), o2, some (.int a), some (.int (Int32.ofNat (k + 1)))]) rfl rfl (i_add k 1) rfl ?_
    refine Pv.goto rfl ?_
    exact ih4 (k + 1, (fp G 77 ((133 * p) + k) (F.1 78 k))) (⟨by omega, hx.fp rfl, fun j hj => Or.elim (Classical.em (j = k)) (fun e => by rw [e]; exact fp_eq) (fun e => (fp_ne (Or.inr (by omega))).trans (hA j (by omega))), fun j hj => (fp_ne (Or.inr (by omega))).trans (hB j hj)⟩)
end
-- 63.b89.lg.lean.txt
section
theorem HSX.cg {F : FW} {m n : Nat} {H H' : Nat → Sh} (h : HSX F m n H) (e : ∀ j, j < n → H' j = H j) : HSX F m n H' := ⟨h.1, h.2.1, fun j hj => by
  rw [e j hj]
  exact h.2.2 j hj⟩
theorem m_kn_p (n : Nat) : m_kn n = (m_kn n - 1) + 1 := by
  unfold m_kn
  split <;> omega
theorem m_kH_r {n : Nat} {H : Nat → Sh} {S S' : Sh} {j : Nat} (h8 : n ≤ 8) (hj : j < m_kn n) : m_kH n H S j = if j < m_kn n - 1 then m_kH n H S' j else S := by
  unfold m_kH
  unfold m_kn at hj ⊢
  by_cases c : n < 8
  · rw [if_pos c] at hj ⊢
    rw [if_pos c, if_pos c, Nat.add_sub_cancel]
    by_cases d : j < n
    · rw [if_pos d, if_pos d, if_pos d]
    · rw [if_neg d, if_neg d]
  · rw [if_neg c] at hj ⊢
    rw [if_neg c, if_neg c]
    by_cases d : j < 7
    · rw [if_pos d, if_pos (show j < 8 - 1 by omega), if_pos d]
    · rw [if_neg d, if_neg (show ¬ j < 8 - 1 by omega)]
def KPL (F G : FW) : Prop := FX (fun q => q = 77 ∨ q = 69) F G ∧ (∀ j, G.1 71 j = F.1 71 j) ∧ ∀ j, j ≠ 25 → G.1 69 j = F.1 69 j
end
-- 63.b89a.lean.txt
section
set_option maxRecDepth 100000 in
set_option maxHeartbeats 4000000 in
theorem r_lg249z {F F0 : FW} {a : Int32} {o2 o4 : Option Value} (hG : GW F) (hR : RTL F0 F) (N : Nat) : Pv (ab_T (L_X11_log Z_X11_isIn Z_X11_taken Z_X11_next Z_X11_logLine Z_X11_sign Z_X11_tries Z_X11_does Z_X11_keep Z_X11_back)) N 249 [some (.ref 69), some (.int 0), o2, some (.int a), o4] [] F (fun r F' => r = some (.int a) ∧ RTB F0 F' ∧ FX (fun q => q = 71) F F') := by
  obtain ⟨Q, hQ⟩ : ∃ Q : Option Value → FW → Prop, Q = (fun r F' => r = some (.int a) ∧ RTB F0 F' ∧ FX (fun q => q = 71) F F') := ⟨_, rfl⟩
  rw [← hQ]
  refine (show Pv (ab_T (L_X11_log Z_X11_isIn Z_X11_taken Z_X11_next Z_X11_logLine Z_X11_sign Z_X11_tries Z_X11_does Z_X11_keep Z_X11_back)) N 249 [some (.ref 69), some (.int 0), o2, some (.int a), o4] [] F Q from ?_)
  refine Pv.iload rfl rfl ?_
  refine Pv.lit rfl ?_
  refine Pv.icmp rfl (fun c1 => ?_) (fun c1 => ?_)
  · skip
    replace c1 : decide ((0 : Int32) = 1) = false := by simpa using c1
    replace c1 := mt (i_eq (a := 0) (b := 1) (by omega) (by omega)).mpr (of_decide_eq_false c1)
    refine Pv.iload rfl rfl ?_
    refine Pv.if0 rfl (fun c2 => ?_) (fun c2 => ?_)
    · skip
      replace c2 : decide ((0 : Int32) = 0) = false := by simpa using c2
      replace c2 := mt (i_eq (a := 0) (b := 0) (by omega) (by omega)).mpr (of_decide_eq_false c2)
      omega
    · skip
      replace c2 : decide ((0 : Int32) = 0) = true := by simpa using c2
      replace c2 := (i_eq (a := 0) (b := 0) (by omega) (by omega)).mp (of_decide_eq_true c2)
      refine Pv.aload rfl rfl ?_
      refine Pv.callV (as := [.ref 69]) (rest := []) rfl rfl rfl (g_back hG) ?_
      rintro _ G ⟨rfl, x1, x2, x3⟩
      refine (show Pv _ _ 317 [some (.ref 69), some (.int 0), o2, some (.int a), o4] [] G Q from ?_)
      refine Pv.iload rfl rfl ?_
      exact Pv.ret rfl (by rw [hQ]; exact ⟨rfl, RTL.bk hR x1 x2 x3, x1⟩)
  · skip
    replace c1 : decide ((0 : Int32) = 1) = true := by simpa using c1
    replace c1 := (i_eq (a := 0) (b := 1) (by omega) (by omega)).mp (of_decide_eq_true c1)
    omega
set_option maxRecDepth 100000 in
set_option maxHeartbeats 4000000 in
theorem r_lg249y {F F0 : FW} {m n kk : Nat} {S S2 : Sh} {H : Nat → Sh} {a : Int32} {o2 o4 : Option Value} (hG : GW F) (hR : RTL F0 F) (hm8 : m ≤ 8) (hS0 : XS F0 m S) (hS : XS F m S2) (hH : HSX F m n H) (h81 : F.1 81 1 = Int32.ofNat kk) (hkk : kk ≤ 40) (N : Nat) : Pv (ab_T (L_X11_log Z_X11_isIn Z_X11_taken Z_X11_next Z_X11_logLine Z_X11_sign Z_X11_tries Z_X11_does Z_X11_keep Z_X11_back)) N 249 [some (.ref 69), some (.int 1), o2, some (.int a), o4] [] F (fun r F' => r = some (.int a) ∧ (kk = 0 → F' = F) ∧ (0 < kk → KPL F F' ∧ HSX F' m (m_kn n) (m_kH n H S))) := by
  obtain ⟨Q, hQ⟩ : ∃ Q : Option Value → FW → Prop, Q = (fun r F' => r = some (.int a) ∧ (kk = 0 → F' = F) ∧ (0 < kk → KPL F F' ∧ HSX F' m (m_kn n) (m_kH n H S))) := ⟨_, rfl⟩
  rw [← hQ]
  refine (show Pv (ab_T (L_X11_log Z_X11_isIn Z_X11_taken Z_X11_next Z_X11_logLine Z_X11_sign Z_X11_tries Z_X11_does Z_X11_keep Z_X11_back)) N 249 [some (.ref 69), some (.int 1), o2, some (.int a), o4] [] F Q from ?_)
  refine Pv.iload rfl rfl ?_
  refine Pv.lit rfl ?_
  refine Pv.icmp rfl (fun c1 => ?_) (fun c1 => ?_)
  · skip
    replace c1 : decide ((1 : Int32) = 1) = false := by simpa using c1
    replace c1 := mt (i_eq (a := 1) (b := 1) (by omega) (by omega)).mpr (of_decide_eq_false c1)
    omega
  · skip
    replace c1 : decide ((1 : Int32) = 1) = true := by simpa using c1
    replace c1 := (i_eq (a := 1) (b := 1) (by omega) (by omega)).mp (of_decide_eq_true c1)
    refine Pv.aload rfl rfl ?_
    refine Pv.getR (v := .ref 81) rfl rfl (GW.at (a := 69) (k := 31) (b := 81) hG (by decide)) ?_
    refine Pv.lit rfl ?_
    refine Pv.ald (z := Int32.ofNat kk) rfl (h81) ?_
    refine Pv.if0 rfl (fun c2 => ?_) (fun c2 => ?_)
    · skip
      replace c2 := (i_le (a := kk) (b := 0) (by omega) (by omega)).mp (of_decide_eq_true c2)
      refine Pv.iload rfl rfl ?_
      refine Pv.if0 rfl (fun c3 => ?_) (fun c3 => ?_)
      · skip
        replace c3 : decide ((1 : Int32) = 0) = false := by simpa using c3
        replace c3 := mt (i_eq (a := 1) (b := 0) (by omega) (by omega)).mpr (of_decide_eq_false c3)
        refine Pv.iload rfl rfl ?_
        exact Pv.ret rfl (by rw [hQ]; exact ⟨rfl, fun _ => rfl, fun z => absurd z (by omega)⟩)
      · skip
        replace c3 : decide ((1 : Int32) = 0) = true := by simpa using c3
        replace c3 := (i_eq (a := 1) (b := 0) (by omega) (by omega)).mp (of_decide_eq_true c3)
        omega
    · skip
      replace c2 := mt (i_le (a := kk) (b := 0) (by omega) (by omega)).mpr (of_decide_eq_false c2)
      refine Pv.aload rfl rfl ?_
      refine Pv.callV (as := [.ref 69]) (rest := []) rfl rfl rfl (g_keep hm8 hS hG hH) ?_
      rintro _ G ⟨rfl, x1, x2, x3, x4⟩
      refine (show Pv _ _ 267 [some (.ref 69), some (.int 1), o2, some (.int a), o4] [] G Q from ?_)
      refine Pv.lit rfl ?_
      refine Pv.istore (lo' := [some (.ref 69), some (.int 1), o2, some (.int a), some (.int 0)]) rfl rfl ?_
      have x5 : HSX G m (m_kn n - 1 + 1) (m_kH n H S2) := by rw [← m_kn_p]; exact x4
      refine Pv.imp (r_lg270 (p := m_kn n - 1) hm8 (hG.fx x1) x5 hS0 (fun k hk => (x1.1 78 k (by decide)).trans (hR.2.1 k hk)) _) ?_
      rintro r F' ⟨e, y1, y2⟩
      rw [hQ]
      refine ⟨e, fun z => absurd z (by omega), fun _ => ⟨⟨x1.tr (y1.wd fun q c => Or.inl c), fun j => (y1.1 71 j (by decide)).trans (x2 j), fun j c => (y1.1 69 j (by decide)).trans (x3 j c)⟩, ?_⟩⟩
      rw [← m_kn_p] at y2
      exact HSX.cg y2 fun j hj => m_kH_r hH.2.1 hj
end
-- 63.b90.lg.lean.txt
section
/-! ===== what a LOG leaves behind: the reference ===== -/
def LGX (F G : FW) : Prop := FX (fun q => q = 69 ∨ q = 71 ∨ q = 77 ∨ q = 78 ∨ q = 81) F G ∧ (∀ k, k < 120 ∨ 253 ≤ k → G.1 71 k = F.1 71 k) ∧ ∀ k, k ≠ 0 → k ≠ 22 → k ≠ 25 → k ≠ 29 → k ≠ 32 → G.1 69 k = F.1 69 k
def LGF (G : FW) (c : Int32) (kk : Nat) (S S2 : Sh) : Prop := G.1 81 0 = c ∧ G.1 81 1 = Int32.ofNat kk ∧ G.1 81 2 = Int32.ofNat (h_d S2) ∧ G.1 81 3 = m_sum (h_u S2) 12 - m_sum (h_u S) 12 ∧ G.1 69 32 = 1
def LGO (F G : FW) (m n : Nat) (S S2 : Sh) (H : Nat → Sh) (l : Int32) (kk : Nat) (c : Int32) : Prop :=
  LGX F G ∧ XS G m (if l = 1 then S2 else S) ∧ HKX (decide (l = 1) && decide (0 < kk)) G m n H S ∧ LGF G c kk S S2
theorem LGF.fx {P : Nat → Prop} {F G : FW} {c : Int32} {kk : Nat} {S S2 : Sh} (f : LGF F c kk S S2) (x : FX P F G) (c1 : ¬ P 81) (e : G.1 69 32 = F.1 69 32) : LGF G c kk S S2 :=
  ⟨(x.1 81 0 c1).trans f.1, (x.1 81 1 c1).trans f.2.1, (x.1 81 2 c1).trans f.2.2.1, (x.1 81 3 c1).trans f.2.2.2.1, e.trans f.2.2.2.2⟩
theorem LGO.z {F0 F F1 G : FW} {m n kk : Nat} {S S2 : Sh} {H : Nat → Sh} {c : Int32} (hm : m ≤ 8) (hS0 : XS F0 m S) (hH : HSX F m n H) (hR : RTL F0 F) (b : RTB F0 G) (x : FX (fun q => q = 71) F1 G) (f : LGF F1 c kk S S2) : LGO F0 G m n S S2 H 0 kk c := by
  refine ⟨⟨b.1.wd fun q h => ?_, fun k _ => b.2.1 k, fun k h1 h2 _ h4 h5 => b.2.2 k h1 h2 h4 h5⟩, ?_, HKX.f (HSX.same hH hm ((b.2.2 25 (by decide) (by decide) (by decide) (by decide)).trans (hR.2.2.2 25 (by decide) (by decide) (by decide) (by decide)).symm) fun k => (b.1.1 77 k (by decide)).trans (hR.1.1 77 k (by decide)).symm) ?_, f.fx x (by decide) (x.1 69 32 (by decide))⟩
  · rcases h with h | h | h | h
    · exact Or.inl h
    · exact Or.inr (Or.inl h)
    · exact Or.inr (Or.inr (Or.inr (Or.inl h)))
    · exact Or.inr (Or.inr (Or.inr (Or.inr h)))
  · rw [if_neg (show ¬ (0 : Int32) = 1 by decide)]
    exact hS0.of hm fun k _ _ => b.2.1 k
  · rw [decide_eq_false (show ¬ (0 : Int32) = 1 by decide)]
    rfl
theorem LGX.of {F0 F : FW} (hR : RTL F0 F) : LGX F0 F := ⟨hR.1.wd fun q h => by
    rcases h with h | h | h | h
    · exact Or.inl h
    · exact Or.inr (Or.inl h)
    · exact Or.inr (Or.inr (Or.inr (Or.inl h)))
    · exact Or.inr (Or.inr (Or.inr (Or.inr h))), hR.2.2.1, fun k h1 h2 _ h4 h5 => hR.2.2.2 k h1 h2 h4 h5⟩
theorem LGO.y {F0 F G : FW} {m n kk : Nat} {S S2 : Sh} {H : Nat → Sh} {c : Int32} (hm : m ≤ 8) (hR : RTL F0 F) (hS : XS F m S2) (hH : HSX F m n H) (f : LGF F c kk S S2) (y1 : kk = 0 → G = F) (y2 : 0 < kk → KPL F G ∧ HSX G m (m_kn n) (m_kH n H S)) : LGO F0 G m n S S2 H 1 kk c := by
  have e1 : decide ((1 : Int32) = 1) = true := decide_eq_true rfl
  rcases Nat.eq_zero_or_pos kk with k0 | k0
  · obtain rfl := y1 k0
    refine ⟨LGX.of hR, ?_, HKX.f hH ?_, f⟩
    · rw [if_pos rfl]
      exact hS
    · rw [decide_eq_false (show ¬ 0 < kk by omega), Bool.and_false]
  · obtain ⟨⟨x1, x2, x3⟩, h⟩ := y2 k0
    have l := LGX.of hR
    refine ⟨⟨l.1.tr (x1.wd fun q h => ?_), fun k hk => (x2 k).trans (l.2.1 k hk), fun k h1 h2 h3 h4 h5 => (x3 k h3).trans (l.2.2 k h1 h2 h3 h4 h5)⟩, ?_, HKX.t h ?_, f.fx x1 (by decide) (x3 32 (by decide))⟩
    · rcases h with h | h
      · exact Or.inr (Or.inr (Or.inl h))
      · exact Or.inl h
    · rw [if_pos rfl]
      exact hS.of hm fun k _ _ => x2 k
    · rw [e1, decide_eq_true k0]
      rfl
theorem HSX.sd {F : FW} {m n a k : Nat} {v : Int32} {H : Nat → Sh} (h : HSX F m n H) (hm : m ≤ 8) (ha : a ≠ 77) (hk : a ≠ 69 ∨ k ≠ 25) : HSX (fp F a k v) m n H :=
  HSX.same h hm (fp_ne (hk.elim (fun e => Or.inl (fun q => e q.symm)) (fun e => Or.inr (fun q => e q.symm)))) fun _ => fp_ne (Or.inl (fun q => ha q.symm))
end
-- 63.b90a.lean.txt
section
set_option maxRecDepth 100000 in
set_option maxHeartbeats 4000000 in
theorem r_lg216z {F F0 : FW} {m n kk : Nat} {S S2 : Sh} {H : Nat → Sh} {a c0 : Int32} {o4 : Option Value} (hG : GW F) (hR : RTL F0 F) (hm8 : m ≤ 8) (hS0 : XS F0 m S) (hS : XS F m S2) (hH : HSX F m n H) (h80 : F.1 81 0 = c0) (h81 : F.1 81 1 = Int32.ofNat kk) (hkk : kk ≤ 40) (N : Nat) : Pv (ab_T (L_X11_log Z_X11_isIn Z_X11_taken Z_X11_next Z_X11_logLine Z_X11_sign Z_X11_tries Z_X11_does Z_X11_keep Z_X11_back)) N 216 [some (.ref 69), some (.int 0), some (.int (m_sum (h_u S) 12)), some (.int a), o4] [] F (fun r F' => r = some (.int a) ∧ LGO F0 F' m n S S2 H 0 kk c0) := by
  obtain ⟨Q, hQ⟩ : ∃ Q : Option Value → FW → Prop, Q = (fun r F' => r = some (.int a) ∧ LGO F0 F' m n S S2 H 0 kk c0) := ⟨_, rfl⟩
  rw [← hQ]
  refine (show Pv (ab_T (L_X11_log Z_X11_isIn Z_X11_taken Z_X11_next Z_X11_logLine Z_X11_sign Z_X11_tries Z_X11_does Z_X11_keep Z_X11_back)) N 216 [some (.ref 69), some (.int 0), some (.int (m_sum (h_u S) 12)), some (.int a), o4] [] F Q from ?_)
  refine Pv.aload rfl rfl ?_
  refine Pv.getR (v := .ref 81) rfl rfl (GW.at (a := 69) (k := 31) (b := 81) hG (by decide)) ?_
  refine Pv.lit rfl ?_
  refine Pv.aload rfl rfl ?_
  refine Pv.getR (v := .ref 71) rfl rfl (GW.at (a := 69) (k := 6) (b := 71) hG (by decide)) ?_
  refine Pv.lit rfl ?_
  refine Pv.ald (z := Int32.ofNat (h_d S2)) rfl (hS.d) ?_
  refine Pv.astk (k := 2) (z := Int32.ofNat (h_d S2)) rfl (rfl) (rfl) ?_
  refine Pv.aload rfl rfl ?_
  refine Pv.getR (v := .ref 81) rfl rfl (GW.at (a := 69) (k := 31) (b := 81) hG (by decide)) ?_
  refine Pv.lit rfl ?_
  refine Pv.aload rfl rfl ?_
  refine Pv.getR (v := .ref 71) rfl rfl (GW.at (a := 69) (k := 6) (b := 71) hG (by decide)) ?_
  refine Pv.lit rfl ?_
  refine Pv.ald (z := m_sum (h_u S2) 12) rfl ((fp_ne (Or.inl (by decide))).trans (hS.st)) ?_
  refine Pv.iload rfl rfl ?_
  refine Pv.bin (z := (m_sum (h_u S2) 12) - (m_sum (h_u S) 12)) rfl (rfl) ?_
  refine Pv.astk (k := 3) (z := (m_sum (h_u S2) 12) - (m_sum (h_u S) 12)) rfl (rfl) (rfl) ?_
  refine Pv.aload rfl rfl ?_
  refine Pv.lit rfl ?_
  refine Pv.putI rfl rfl ?_
  have f1 : LGF (fp (fp (fp F 81 2 (Int32.ofNat (h_d S2))) 81 3 ((m_sum (h_u S2) 12) - (m_sum (h_u S) 12))) 69 32 1) c0 kk S S2 := ⟨(fp_ne (Or.inl (by decide))).trans ((fp_ne (Or.inr (by decide))).trans ((fp_ne (Or.inr (by decide))).trans (h80))), (fp_ne (Or.inl (by decide))).trans ((fp_ne (Or.inr (by decide))).trans ((fp_ne (Or.inr (by decide))).trans (h81))), (fp_ne (Or.inl (by decide))).trans ((fp_ne (Or.inr (by decide))).trans (fp_eq)), (fp_ne (Or.inl (by decide))).trans (fp_eq), fp_eq⟩
  have hG1 : GW (fp (fp (fp F 81 2 (Int32.ofNat (h_d S2))) 81 3 ((m_sum (h_u S2) 12) - (m_sum (h_u S) 12))) 69 32 1) := (hG.fx (P := fun _ => True) (((((FX.rf (P := fun _ => True))).fp trivial).fp trivial).fp trivial))
  have hR1 : RTL F0 (fp (fp (fp F 81 2 (Int32.ofNat (h_d S2))) 81 3 ((m_sum (h_u S2) 12) - (m_sum (h_u S) 12))) 69 32 1) := (RTL.sd (RTL.st (RTL.st hR)) (Or.inr (Or.inr (Or.inr rfl))))
  refine Pv.imp (r_lg249z hG1 hR1 _) ?_
  rintro r G ⟨e, b, x⟩
  rw [hQ]
  exact ⟨e, LGO.z hm8 hS0 hH hR b x f1⟩
set_option maxRecDepth 100000 in
set_option maxHeartbeats 4000000 in
theorem r_lg216y {F F0 : FW} {m n kk : Nat} {S S2 : Sh} {H : Nat → Sh} {a c0 : Int32} {o4 : Option Value} (hG : GW F) (hR : RTL F0 F) (hm8 : m ≤ 8) (hS0 : XS F0 m S) (hS : XS F m S2) (hH : HSX F m n H) (h80 : F.1 81 0 = c0) (h81 : F.1 81 1 = Int32.ofNat kk) (hkk : kk ≤ 40) (N : Nat) : Pv (ab_T (L_X11_log Z_X11_isIn Z_X11_taken Z_X11_next Z_X11_logLine Z_X11_sign Z_X11_tries Z_X11_does Z_X11_keep Z_X11_back)) N 216 [some (.ref 69), some (.int 1), some (.int (m_sum (h_u S) 12)), some (.int a), o4] [] F (fun r F' => r = some (.int a) ∧ LGO F0 F' m n S S2 H 1 kk c0) := by
  obtain ⟨Q, hQ⟩ : ∃ Q : Option Value → FW → Prop, Q = (fun r F' => r = some (.int a) ∧ LGO F0 F' m n S S2 H 1 kk c0) := ⟨_, rfl⟩
  rw [← hQ]
  refine (show Pv (ab_T (L_X11_log Z_X11_isIn Z_X11_taken Z_X11_next Z_X11_logLine Z_X11_sign Z_X11_tries Z_X11_does Z_X11_keep Z_X11_back)) N 216 [some (.ref 69), some (.int 1), some (.int (m_sum (h_u S) 12)), some (.int a), o4] [] F Q from ?_)
  refine Pv.aload rfl rfl ?_
  refine Pv.getR (v := .ref 81) rfl rfl (GW.at (a := 69) (k := 31) (b := 81) hG (by decide)) ?_
  refine Pv.lit rfl ?_
  refine Pv.aload rfl rfl ?_
  refine Pv.getR (v := .ref 71) rfl rfl (GW.at (a := 69) (k := 6) (b := 71) hG (by decide)) ?_
  refine Pv.lit rfl ?_
  refine Pv.ald (z := Int32.ofNat (h_d S2)) rfl (hS.d) ?_
  refine Pv.astk (k := 2) (z := Int32.ofNat (h_d S2)) rfl (rfl) (rfl) ?_
  refine Pv.aload rfl rfl ?_
  refine Pv.getR (v := .ref 81) rfl rfl (GW.at (a := 69) (k := 31) (b := 81) hG (by decide)) ?_
  refine Pv.lit rfl ?_
  refine Pv.aload rfl rfl ?_
  refine Pv.getR (v := .ref 71) rfl rfl (GW.at (a := 69) (k := 6) (b := 71) hG (by decide)) ?_
  refine Pv.lit rfl ?_
  refine Pv.ald (z := m_sum (h_u S2) 12) rfl ((fp_ne (Or.inl (by decide))).trans (hS.st)) ?_
  refine Pv.iload rfl rfl ?_
  refine Pv.bin (z := (m_sum (h_u S2) 12) - (m_sum (h_u S) 12)) rfl (rfl) ?_
  refine Pv.astk (k := 3) (z := (m_sum (h_u S2) 12) - (m_sum (h_u S) 12)) rfl (rfl) (rfl) ?_
  refine Pv.aload rfl rfl ?_
  refine Pv.lit rfl ?_
  refine Pv.putI rfl rfl ?_
  have f1 : LGF (fp (fp (fp F 81 2 (Int32.ofNat (h_d S2))) 81 3 ((m_sum (h_u S2) 12) - (m_sum (h_u S) 12))) 69 32 1) c0 kk S S2 := ⟨(fp_ne (Or.inl (by decide))).trans ((fp_ne (Or.inr (by decide))).trans ((fp_ne (Or.inr (by decide))).trans (h80))), (fp_ne (Or.inl (by decide))).trans ((fp_ne (Or.inr (by decide))).trans ((fp_ne (Or.inr (by decide))).trans (h81))), (fp_ne (Or.inl (by decide))).trans ((fp_ne (Or.inr (by decide))).trans (fp_eq)), (fp_ne (Or.inl (by decide))).trans (fp_eq), fp_eq⟩
  have hG1 : GW (fp (fp (fp F 81 2 (Int32.ofNat (h_d S2))) 81 3 ((m_sum (h_u S2) 12) - (m_sum (h_u S) 12))) 69 32 1) := (hG.fx (P := fun _ => True) (((((FX.rf (P := fun _ => True))).fp trivial).fp trivial).fp trivial))
  have hR1 : RTL F0 (fp (fp (fp F 81 2 (Int32.ofNat (h_d S2))) 81 3 ((m_sum (h_u S2) 12) - (m_sum (h_u S) 12))) 69 32 1) := (RTL.sd (RTL.st (RTL.st hR)) (Or.inr (Or.inr (Or.inr rfl))))
  have hS1 : XS (fp (fp (fp F 81 2 (Int32.ofNat (h_d S2))) 81 3 ((m_sum (h_u S2) 12) - (m_sum (h_u S) 12))) 69 32 1) m S2 := (XS.sd (XS.sd (XS.sd hS hm8 (by decide)) hm8 (by decide)) hm8 (by decide))
  have hH1 : HSX (fp (fp (fp F 81 2 (Int32.ofNat (h_d S2))) 81 3 ((m_sum (h_u S2) 12) - (m_sum (h_u S) 12))) 69 32 1) m n H := (HSX.sd (HSX.sd (HSX.sd hH hm8 (by decide) (Or.inl (by decide))) hm8 (by decide) (Or.inl (by decide))) hm8 (by decide) (Or.inr (by decide)))
  refine Pv.imp (r_lg249y hG1 hR1 hm8 hS0 hS1 hH1 f1.2.1 hkk _) ?_
  rintro r G ⟨e, y1, y2⟩
  rw [hQ]
  exact ⟨e, LGO.y hm8 hR1 hS1 hH1 f1 y1 y2⟩
end
-- 63.b91.lg.lean.txt
section
/-! ===== the reference judges a LOG ===== -/
theorem r_does {F : FW} {T : St} {S : Sh} {y : Nat × Nat × Nat} {v1 v2 v3 : Int32} (hT : XT F T) (hS : XS F (t_m T) S) (hG : GW F) (hTB : TBB T) (hI : INV T S) (hy : LYK T y) (h1 : y.1 < 3 → v1 = Int32.ofNat (y.2.1 / 2) ∧ v2 = Int32.ofNat (y.2.1 % 2) ∧ v3 = Int32.ofNat y.2.2) (h3 : y.1 = 3 → v1 = Int32.ofNat y.2.1) (h4 : y.1 = 4 → v1 = Int32.ofNat y.2.2) : Pm Z_X11_does [.ref 69, .int (Int32.ofNat y.1), .int v1, .int v2, .int v3] F (fun r F' => r = some (.int (jw S y)) ∧ RXS F F' ∧ XS F' (t_m T) (js T S y)) := by
  obtain ⟨d, w, x⟩ := y
  obtain ⟨q1, q2, q3, q4⟩ := hy
  dsimp only at q1 q2 q3 q4 h1 h3 h4 ⊢
  have hw : 2 * (w / 2) + w % 2 = w := by omega
  rcases (by omega : d = 0 ∨ d = 1 ∨ d = 2 ∨ d = 3 ∨ d = 4) with e | e | e | e | e
  · subst e
    obtain ⟨rfl, rfl, rfl⟩ := h1 (by omega)
    have z := r_does0 (g := w / 2) (s := w % 2) (x := x) hT hS hG (by have := (q2 (by omega)).1; omega) (by have := (q2 (by omega)).2.2; omega)
    rw [hw] at z
    exact z
  · subst e
    obtain ⟨rfl, rfl, rfl⟩ := h1 (by omega)
    have z := r_does1 (g := w / 2) (s := w % 2) (x := x) hT hS hG (by have := (q2 (by omega)).1; omega) (by have := (q2 (by omega)).2.2; omega)
    rw [hw] at z
    exact z
  · subst e
    obtain ⟨rfl, rfl, rfl⟩ := h1 (by omega)
    have z := r_does2 (g := w / 2) (s := w % 2) (x := x) hT hS hG (by have := (q2 (by omega)).1; omega) (by have := (q2 (by omega)).2.2; omega)
    rw [hw] at z
    exact z
  · subst e
    obtain rfl := h3 rfl
    have x0 := (q3 rfl).2
    subst x0
    exact r_does3 hT hS hG (q3 rfl).1 v2 v3
  · subst e
    obtain rfl := h4 rfl
    have z := r_does4 hT hS hG hTB hI (by have := (q4 rfl).2; omega) v2 v3
    have ew : jw S (4, w, x) = jw S (4, 0, x) := by
      unfold jw
      rw [if_pos rfl, if_pos rfl]
    have es : js T S (4, w, x) = js T S (4, 0, x) := by
      unfold js
      rw [if_pos rfl, if_pos rfl]
    rw [ew, es]
    exact z
theorem m_why_3 {d : Nat} {S : Sh} {k : Nat} {n : Int32} : m_why d S k n = 0 ∨ m_why d S k n = 1 ∨ m_why d S k n = 2 := by
  unfold m_why
  split
  · split
    · exact Or.inr (Or.inl rfl)
    · split
      · exact Or.inr (Or.inr rfl)
      · exact Or.inl rfl
  · split
    · exact Or.inl rfl
    · exact Or.inr (Or.inl rfl)
  · split
    · exact Or.inr (Or.inl rfl)
    · exact Or.inl rfl
theorem jw_le {S : Sh} {y : Nat × Nat × Nat} (hy : y.1 ≤ 4) : jw S y ≤ 0 ↔ jw S y = 0 := by
  refine ⟨fun h => ?_, fun h => by rw [h]; decide⟩
  unfold jw at h ⊢
  by_cases c : y.1 = 4
  · rw [if_pos c] at h ⊢
    by_cases e : h_d S + y.2.2 ≤ 400
    · rw [if_pos e]
    · rw [if_neg e] at h
      exact absurd h (by decide)
  · rw [if_neg c] at h ⊢
    by_cases e : m_why y.1 S y.2.1 (Int32.ofNat y.2.2) = 0
    · rw [if_pos e]
    · rw [if_neg e] at h
      exfalso
      have r : m_why y.1 S y.2.1 (Int32.ofNat y.2.2) = 0 ∨ m_why y.1 S y.2.1 (Int32.ofNat y.2.2) = 1 ∨ m_why y.1 S y.2.1 (Int32.ofNat y.2.2) = 2 := m_why_3
      have d4 : y.1 = 0 ∨ y.1 = 1 ∨ y.1 = 2 ∨ y.1 = 3 := by omega
      rcases r with r | r | r
      · exact e r
      · rw [r] at h
        rcases d4 with d | d | d | d <;> rw [d] at h <;> exact absurd h (by decide)
      · rw [r] at h
        rcases d4 with d | d | d | d <;> rw [d] at h <;> exact absurd h (by decide)
theorem oN_neg0 {q : Option Nat} (hq : ∀ k, q = some k → k < 2 ^ 31) (h : oN q < 0) : q = none := by
  cases q with
  | none => rfl
  | some k =>
    exfalso
    have h' : Int32.ofNat k < Int32.ofNat 0 := h
    have := (i_lt (a := k) (b := 0) (hq k rfl) (by omega)).mp h'
    omega
theorem jfst_go {T : St} {L : LN} {S : Sh} {k n : Nat} (h : ¬ m_fst (jP T L S) k = none) (hk : k ≤ n) : m_fst (jP T L S) n = m_fst (jP T L S) k := by
  cases e : m_fst (jP T L S) k with
  | none => exact absurd e h
  | some i =>
    have := m_fst_up e (n - k)
    rw [show k + (n - k) = n by omega] at this
    exact this
theorem jn_go {T : St} {L : LN} {S : Sh} {k n : Nat} (h : ¬ m_fst (jP T L S) k = none) : jn k (m_fst (jP T L S) k) = jn n (m_fst (jP T L S) k) := by
  cases e : m_fst (jP T L S) k with
  | none => exact absurd e h
  | some i => rfl
theorem jn_le {T : St} {L : LN} {S : Sh} {n : Nat} : jn n (m_fst (jP T L S) n) ≤ n := by
  cases e : m_fst (jP T L S) n with
  | none => exact Nat.le_refl n
  | some i => exact Nat.le_of_lt (m_fst_lt e).1
theorem r_lg216 {F F0 : FW} {m n kk : Nat} {S S2 : Sh} {H : Nat → Sh} {a c0 l : Int32} {o4 : Option Value} (hG : GW F) (hR : RTL F0 F) (hm8 : m ≤ 8) (hS0 : XS F0 m S) (hS : XS F m S2) (hH : HSX F m n H) (h80 : F.1 81 0 = c0) (h81 : F.1 81 1 = Int32.ofNat kk) (hkk : kk ≤ 40) (hl : l = 0 ∨ l = 1) (N : Nat) : Pv (ab_T (L_X11_log Z_X11_isIn Z_X11_taken Z_X11_next Z_X11_logLine Z_X11_sign Z_X11_tries Z_X11_does Z_X11_keep Z_X11_back)) N 216 [some (.ref 69), some (.int l), some (.int (m_sum (h_u S) 12)), some (.int a), o4] [] F (fun r F' => r = some (.int a) ∧ LGO F0 F' m n S S2 H l kk c0) := by
  rcases hl with rfl | rfl
  · exact r_lg216z hG hR hm8 hS0 hS hH h80 h81 hkk N
  · exact r_lg216y hG hR hm8 hS0 hS hH h80 h81 hkk N
def LGI (F0 G : FW) (T : St) (L : LN) (S : Sh) (nl k : Nat) (a : Int32) : Prop := k ≤ nl ∧ RTL F0 G ∧ a = oN (m_fst (jP T L S) k) ∧ XS G (t_m T) (jr T L S (jn k (m_fst (jP T L S) k))) ∧ G.1 81 0 = jc T L S (m_fst (jP T L S) k) ∧ G.1 81 1 = Int32.ofNat (jn k (m_fst (jP T L S) k))
theorem lg_by {F0 G : FW} {T : St} {L : LN} {S : Sh} {nl k : Nat} {a : Int32} (ea : a = -1) (en : m_fst (jP T L S) k = none) (hy : (L k).1 ≤ 4) (c : jw (jr T L S k) (L k) ≤ 0) (hk : k + 1 ≤ nl) (hR : RTL F0 G) (hx : XS G (t_m T) (js T (jr T L S k) (L k))) (h0 : G.1 81 0 = jw (jr T L S k) (L k)) (h1 : G.1 81 1 = Int32.ofNat (k + 1)) : LGI F0 G T L S nl (k + 1) a := by
  have w0 := (jw_le hy).mp c
  have e : m_fst (jP T L S) (k + 1) = none := m_fst_n en (show (!decide (jw (jr T L S k) (L k) = 0)) = false by rw [decide_eq_true w0]; rfl)
  unfold LGI
  rw [e]
  exact ⟨hk, hR, ea, hx, h0.trans w0, h1⟩
theorem lg_bn {F0 G : FW} {T : St} {L : LN} {S : Sh} {nl k : Nat} (en : m_fst (jP T L S) k = none) (hy : (L k).1 ≤ 4) (c : ¬ jw (jr T L S k) (L k) ≤ 0) (hk : k + 1 ≤ nl) (hR : RTL F0 G) (hx : js T (jr T L S k) (L k) = jr T L S k → XS G (t_m T) (jr T L S k)) (h0 : G.1 81 0 = jw (jr T L S k) (L k)) (h1 : G.1 81 1 = Int32.ofNat k) : LGI F0 G T L S nl (k + 1) (Int32.ofNat k) := by
  have w0 : ¬ jw (jr T L S k) (L k) = 0 := fun e => c ((jw_le hy).mpr e)
  have e : m_fst (jP T L S) (k + 1) = some k := m_fst_e en (show (!decide (jw (jr T L S k) (L k) = 0)) = true by rw [decide_eq_false w0]; rfl) (Nat.lt_succ_self k)
  unfold LGI
  rw [e]
  exact ⟨hk, hR, rfl, hx (js_w hy w0), h0, h1⟩
end
-- 63.b91a.lean.txt
section
set_option maxRecDepth 100000 in
set_option maxHeartbeats 4000000 in
theorem r_lg120 {F F0 : FW} {n nl : Nat} {T : St} {S : Sh} {L : LN} {H : Nat → Sh} {l : Int32} (hG0 : GW F0) (hT0 : XT F0 T) (hTB : TBB T) (hI : INV T S) (hS0 : XS F0 (t_m T) S) (hH0 : HSX F0 (t_m T) n H) (hL : ∀ k, k < nl → LIR F0 k (L k).1 (L k).2.1 (L k).2.2) (hK : ∀ k, k < nl → LYK T (L k)) (h30 : F0.1 69 30 = Int32.ofNat nl) (hnl : nl ≤ 40) (hl : l = 0 ∨ l = 1) (hR : RTL F0 F) (hSF : XS F (t_m T) S) (h80 : F.1 81 0 = 0) (h81 : F.1 81 1 = 0) (N : Nat) : Pv (ab_T (L_X11_log Z_X11_isIn Z_X11_taken Z_X11_next Z_X11_logLine Z_X11_sign Z_X11_tries Z_X11_does Z_X11_keep Z_X11_back)) N 120 [some (.ref 69), some (.int l), some (.int (m_sum (h_u S) 12)), some (.int (-1)), some (.int (Int32.ofNat 0))] [] F (fun r F' => r = some (.int (oN (m_fst (jP T L S) nl))) ∧ LGO F0 F' (t_m T) n S (jr T L S (jn nl (m_fst (jP T L S) nl))) H l (jn nl (m_fst (jP T L S) nl)) (jc T L S (m_fst (jP T L S) nl))) := by
  obtain ⟨Q, hQ⟩ : ∃ Q : Option Value → FW → Prop, Q = (fun r F' => r = some (.int (oN (m_fst (jP T L S) nl))) ∧ LGO F0 F' (t_m T) n S (jr T L S (jn nl (m_fst (jP T L S) nl))) H l (jn nl (m_fst (jP T L S) nl)) (jc T L S (m_fst (jP T L S) nl))) := ⟨_, rfl⟩
  rw [← hQ]
  have hm8 : t_m T ≤ 8 := hT0.mb
  refine (show Pv (ab_T (L_X11_log Z_X11_isIn Z_X11_taken Z_X11_next Z_X11_logLine Z_X11_sign Z_X11_tries Z_X11_does Z_X11_keep Z_X11_back)) N 120 [some (.ref 69), some (.int l), some (.int (m_sum (h_u S) 12)), some (.int (-1)), some (.int (Int32.ofNat 0))] [] F Q from ?_)
  refine Pv.lp (ι := Int32 × Nat × FW) (lof := fun ⟨a, k, G⟩ => [some (.ref 69), some (.int l), some (.int (m_sum (h_u S) 12)), some (.int a), some (.int (Int32.ofNat k))]) (Ff := fun ⟨a, k, G⟩ => G) (P := fun ⟨a, k, G⟩ => k ≤ nl ∧ RTL F0 G ∧ a = oN (m_fst (jP T L S) k) ∧ XS G (t_m T) (jr T L S (jn k (m_fst (jP T L S) k))) ∧ G.1 81 0 = jc T L S (m_fst (jP T L S) k) ∧ G.1 81 1 = Int32.ofNat (jn k (m_fst (jP T L S) k))) ?_ ((-1), 0, F) (⟨Nat.zero_le _, hR, rfl, hSF, h80, h81⟩)
  rintro N1 hN2 ⟨a, k, G⟩ hi3 ih4
  refine (show Pv _ _ 120 [some (.ref 69), some (.int l), some (.int (m_sum (h_u S) 12)), some (.int a), some (.int (Int32.ofNat k))] [] G Q from ?_)
  obtain ⟨hk, hR, ha, hs, h0, h1⟩ := hi3
  have gG := RTL.G hR hG0
  have hHG : HSX G (t_m T) n H := HSX.same hH0 hm8 (hR.2.2.2 25 (by decide) (by decide) (by decide) (by decide)) (fun k => hR.1.1 77 k (by decide))
  refine Pv.iloadS rfl rfl ?_
  refine Pv.aload rfl rfl ?_
  refine Pv.getI (z := Int32.ofNat nl) rfl rfl ((hR.2.2.2 30 (by decide) (by decide) (by decide) (by decide)).trans h30) ?_
  refine Pv.icmp rfl (fun c5 => ?_) (fun c5 => ?_)
  · skip
    replace c5 := (i_le (a := nl) (b := k) (by omega) (by omega)).mp (of_decide_eq_true c5)
    have ek : k = nl := by omega
    have e1 : m_fst (jP T L S) k = m_fst (jP T L S) nl := by rw [ek]
    have e2 : jn k (m_fst (jP T L S) k) = jn nl (m_fst (jP T L S) nl) := by rw [ek]
    rw [e2] at hs h1
    rw [e1] at ha h0
    rw [hQ, ha]
    exact r_lg216 gG hR hm8 hS0 hs hHG h0 h1 (Nat.le_trans jn_le hnl) hl _
  · skip
    replace c5 := mt (i_le (a := nl) (b := k) (by omega) (by omega)).mpr (of_decide_eq_false c5)
    refine Pv.iload rfl rfl ?_
    refine Pv.if0 rfl (fun c6 => ?_) (fun c6 => ?_)
    · skip
      replace c6 := of_decide_eq_true c6
      have nn : ¬ m_fst (jP T L S) k = none := fun e => by rw [e] at ha; rw [ha] at c6; exact absurd c6 (by decide)
      have e1 : m_fst (jP T L S) k = m_fst (jP T L S) nl := (jfst_go nn hk).symm
      have e2 : jn k (m_fst (jP T L S) k) = jn nl (m_fst (jP T L S) nl) := (jn_go nn).trans (congrArg (jn nl) e1)
      rw [e2] at hs h1
      rw [e1] at ha h0
      rw [hQ, ha]
      exact r_lg216 gG hR hm8 hS0 hs hHG h0 h1 (Nat.le_trans jn_le hnl) hl _
    · skip
      replace c6 := of_decide_eq_false c6
      have hlt : k < nl := by omega
      have en : m_fst (jP T L S) k = none := oN_neg0 (fun q e => by have := (m_fst_lt e).1; omega) (by rw [← ha]; exact Int32.not_le.mp c6)
      have ea : a = -1 := by rw [ha, en]; rfl
      rw [en] at hs h0 h1
      have hsk : XS G (t_m T) (jr T L S k) := hs
      refine Pv.aload rfl rfl ?_
      refine Pv.getR (v := .ref 81) rfl rfl (GW.at (a := 69) (k := 31) (b := 81) gG (by decide)) ?_
      refine Pv.lit rfl ?_
      refine Pv.aload rfl rfl ?_
      refine Pv.aload rfl rfl ?_
      refine Pv.getR (v := .ref 73) rfl rfl (GW.at (a := 69) (k := 8) (b := 73) gG (by decide)) ?_
      refine Pv.lit rfl ?_
      refine Pv.iload rfl rfl ?_
      refine Pv.bin (z := Int32.ofNat (4 * k)) rfl (i_mul 4 k) ?_
      refine Pv.ald (z := Int32.ofNat ((L k).1)) rfl (by rw [i_toNat (by omega)]; exact (hR.1.1 73 _ (by decide)).trans (hL k hlt).1) ?_
      refine Pv.aload rfl rfl ?_
      refine Pv.getR (v := .ref 73) rfl rfl (GW.at (a := 69) (k := 8) (b := 73) gG (by decide)) ?_
      refine Pv.lit rfl ?_
      refine Pv.iload rfl rfl ?_
      refine Pv.bin (z := Int32.ofNat (4 * k)) rfl (i_mul 4 k) ?_
      refine Pv.lit rfl ?_
      refine Pv.bin (z := Int32.ofNat ((4 * k) + 1)) rfl (i_add (4 * k) 1) ?_
      refine Pv.ald (z := F0.1 73 ((4 * k) + 1)) rfl (by rw [i_toNat (by omega)]; exact hR.1.1 73 _ (by decide)) ?_
      refine Pv.aload rfl rfl ?_
      refine Pv.getR (v := .ref 73) rfl rfl (GW.at (a := 69) (k := 8) (b := 73) gG (by decide)) ?_
      refine Pv.lit rfl ?_
      refine Pv.iload rfl rfl ?_
      refine Pv.bin (z := Int32.ofNat (4 * k)) rfl (i_mul 4 k) ?_
      refine Pv.lit rfl ?_
      refine Pv.bin (z := Int32.ofNat ((4 * k) + 2)) rfl (i_add (4 * k) 2) ?_
      refine Pv.ald (z := F0.1 73 ((4 * k) + 2)) rfl (by rw [i_toNat (by omega)]; exact hR.1.1 73 _ (by decide)) ?_
      refine Pv.aload rfl rfl ?_
      refine Pv.getR (v := .ref 73) rfl rfl (GW.at (a := 69) (k := 8) (b := 73) gG (by decide)) ?_
      refine Pv.lit rfl ?_
      refine Pv.iload rfl rfl ?_
      refine Pv.bin (z := Int32.ofNat (4 * k)) rfl (i_mul 4 k) ?_
      refine Pv.lit rfl ?_
      refine Pv.bin (z := Int32.ofNat ((4 * k) + 3)) rfl (i_add (4 * k) 3) ?_
      refine Pv.ald (z := F0.1 73 ((4 * k) + 3)) rfl (by rw [i_toNat (by omega)]; exact hR.1.1 73 _ (by decide)) ?_
      refine Pv.callV (as := [.ref 69, .int (Int32.ofNat ((L k).1)), .int (F0.1 73 ((4 * k) + 1)), .int (F0.1 73 ((4 * k) + 2)), .int (F0.1 73 ((4 * k) + 3))]) (rest := [.int 0, .ref 81]) rfl rfl rfl (r_does (y := L k) (hR.T hT0) hsk gG hTB (INV_jr hTB hT0.gb hI k (fun l hl => hK l (by omega))) (hK k hlt) (fun e => (hL k hlt).2.1 e) (fun e => (hL k hlt).2.2.1 e) (fun e => (hL k hlt).2.2.2 e)) ?_
      rintro _ G2 ⟨rfl, x1, x2⟩
      have gG2 := GW.fx gG x1.1
      refine (show Pv _ _ 184 [some (.ref 69), some (.int l), some (.int (m_sum (h_u S) 12)), some (.int a), some (.int (Int32.ofNat k))] [.int (jw (jr T L S k) (L k)), .int 0, .ref 81] G2 Q from ?_)
      refine Pv.astk (k := 0) (z := jw (jr T L S k) (L k)) rfl (rfl) (rfl) ?_
      refine Pv.aload rfl rfl ?_
      refine Pv.getR (v := .ref 81) rfl rfl (GW.at (a := 69) (k := 31) (b := 81) gG2 (by decide)) ?_
      refine Pv.lit rfl ?_
      refine Pv.ald (z := jw (jr T L S k) (L k)) rfl (fp_eq) ?_
      refine Pv.if0 rfl (fun c7 => ?_) (fun c7 => ?_)
      · skip
        replace c7 := of_decide_eq_true c7
        refine Pv.aload rfl rfl ?_
        refine Pv.getR (v := .ref 81) rfl rfl (GW.at (a := 69) (k := 31) (b := 81) gG2 (by decide)) ?_
        refine Pv.lit rfl ?_
        refine Pv.dup2 rfl ?_
        refine Pv.ald (z := Int32.ofNat k) rfl ((fp_ne (Or.inr (by decide))).trans ((x1.1.1 81 1 (by decide)).trans h1)) ?_
        refine Pv.lit rfl ?_
        refine Pv.bin (z := Int32.ofNat (k + 1)) rfl (i_add k 1) ?_
        refine Pv.astk (k := 1) (z := Int32.ofNat (k + 1)) rfl (rfl) (rfl) ?_
        refine Pv.iinc (y := Int32.ofNat (k + 1)) (lo' := [some (.ref 69), some (.int l), some (.int (m_sum (h_u S) 12)), some (.int a), some (.int (Int32.ofNat (k + 1)))]) rfl rfl (i_add k 1) rfl ?_
        refine Pv.goto rfl ?_
        exact ih4 (a, k + 1, (fp (fp G2 81 0 (jw (jr T L S k) (L k))) 81 1 (Int32.ofNat (k + 1)))) (lg_by (nl := nl) ea en (hK k hlt).1 c7 (by omega) (RTL.st (RTL.st (RTL.sx hR x1))) ((XS.sd (XS.sd x2 hm8 (by decide)) hm8 (by decide))) ((fp_ne (Or.inr (by decide))).trans (fp_eq)) (fp_eq))
      · skip
        replace c7 := of_decide_eq_false c7
        refine Pv.iload rfl rfl ?_
        refine Pv.istore (lo' := [some (.ref 69), some (.int l), some (.int (m_sum (h_u S) 12)), some (.int (Int32.ofNat k)), some (.int (Int32.ofNat k))]) rfl rfl ?_
        refine Pv.goto rfl ?_
        refine Pv.iinc (y := Int32.ofNat (k + 1)) (lo' := [some (.ref 69), some (.int l), some (.int (m_sum (h_u S) 12)), some (.int (Int32.ofNat k)), some (.int (Int32.ofNat (k + 1)))]) rfl rfl (i_add k 1) rfl ?_
        refine Pv.goto rfl ?_
        exact ih4 (Int32.ofNat k, k + 1, (fp G2 81 0 (jw (jr T L S k) (L k)))) (lg_bn (nl := nl) en (hK k hlt).1 c7 (by omega) (RTL.st (RTL.sx hR x1)) (fun e => by rw [← e]; exact (XS.sd x2 hm8 (by decide))) (fp_eq) ((fp_ne (Or.inr (by decide))).trans ((x1.1.1 81 1 (by decide)).trans h1)))
end
-- 63.b91b.lean.txt
section
set_option maxRecDepth 100000 in
set_option maxHeartbeats 4000000 in
theorem r_lg83 {F0 : FW} {n nl : Nat} {T : St} {S : Sh} {L : LN} {H : Nat → Sh} {l : Int32} (hG0 : GW F0) (hT0 : XT F0 T) (hTB : TBB T) (hI : INV T S) (hS0 : XS F0 (t_m T) S) (hH0 : HSX F0 (t_m T) n H) (hL : ∀ k, k < nl → LIR F0 k (L k).1 (L k).2.1 (L k).2.2) (hK : ∀ k, k < nl → LYK T (L k)) (h30 : F0.1 69 30 = Int32.ofNat nl) (hnl : nl ≤ 40) (hl : l = 0 ∨ l = 1) (N : Nat) : Pv (ab_T (L_X11_log Z_X11_isIn Z_X11_taken Z_X11_next Z_X11_logLine Z_X11_sign Z_X11_tries Z_X11_does Z_X11_keep Z_X11_back)) N 83 [some (.ref 69), some (.int l), none, none, none] [] F0 (fun r F' => r = some (.int (oN (m_fst (jP T L S) nl))) ∧ LGO F0 F' (t_m T) n S (jr T L S (jn nl (m_fst (jP T L S) nl))) H l (jn nl (m_fst (jP T L S) nl)) (jc T L S (m_fst (jP T L S) nl))) := by
  obtain ⟨Q, hQ⟩ : ∃ Q : Option Value → FW → Prop, Q = (fun r F' => r = some (.int (oN (m_fst (jP T L S) nl))) ∧ LGO F0 F' (t_m T) n S (jr T L S (jn nl (m_fst (jP T L S) nl))) H l (jn nl (m_fst (jP T L S) nl)) (jc T L S (m_fst (jP T L S) nl))) := ⟨_, rfl⟩
  rw [← hQ]
  have hm8 : t_m T ≤ 8 := hT0.mb
  refine (show Pv (ab_T (L_X11_log Z_X11_isIn Z_X11_taken Z_X11_next Z_X11_logLine Z_X11_sign Z_X11_tries Z_X11_does Z_X11_keep Z_X11_back)) N 83 [some (.ref 69), some (.int l), none, none, none] [] F0 Q from ?_)
  refine Pv.aload rfl rfl ?_
  refine Pv.callV (as := [.ref 69]) (rest := []) rfl rfl rfl (g_tries hG0) ?_
  rintro _ G ⟨rfl, x1, x2⟩
  have gG := GW.fx hG0 x1
  have r0 : RTL F0 G := RTL.of x1 x2
  have s0 : XS G (t_m T) S := XS.fx hS0 hm8 x1 (by decide)
  refine (show Pv _ _ 87 [some (.ref 69), some (.int l), none, none, none] [] G Q from ?_)
  refine Pv.lit rfl ?_
  refine Pv.istore (lo' := [some (.ref 69), some (.int l), some (.int 0), none, none]) rfl rfl ?_
  refine Pv.lp (ι := Nat × FW) (lof := fun ⟨i, K⟩ => [some (.ref 69), some (.int l), some (.int (Int32.ofNat i)), none, none]) (Ff := fun ⟨i, K⟩ => K) (P := fun ⟨i, K⟩ => (i ≤ 4) ∧ (RTL F0 K) ∧ (XS K (t_m T) S) ∧ (∀ j, j < i → K.1 81 j = 0)) ?_ (0, G) (⟨Nat.zero_le _, r0, s0, fun j hj => absurd hj (Nat.not_lt_zero j)⟩)
  rintro N1 hN2 ⟨i, K⟩ hi3 ih4
  refine (show Pv _ _ 89 [some (.ref 69), some (.int l), some (.int (Int32.ofNat i)), none, none] [] K Q from ?_)
  obtain ⟨hi4, hR, hs, h4⟩ := hi3
  have gK := RTL.G hR hG0
  refine Pv.iloadS rfl rfl ?_
  refine Pv.lit rfl ?_
  refine Pv.icmp rfl (fun c5 => ?_) (fun c5 => ?_)
  · skip
    replace c5 := (i_le (a := 4) (b := i) (by omega) (by omega)).mp (of_decide_eq_true c5)
    refine Pv.aload rfl rfl ?_
    refine Pv.getR (v := .ref 71) rfl rfl (GW.at (a := 69) (k := 6) (b := 71) gK (by decide)) ?_
    refine Pv.lit rfl ?_
    refine Pv.ald (z := m_sum (h_u S) 12) rfl (hs.st) ?_
    refine Pv.istore (lo' := [some (.ref 69), some (.int l), some (.int (m_sum (h_u S) 12)), none, none]) rfl rfl ?_
    refine Pv.lit rfl ?_
    refine Pv.istore (lo' := [some (.ref 69), some (.int l), some (.int (m_sum (h_u S) 12)), some (.int (-1)), none]) rfl rfl ?_
    refine Pv.lit rfl ?_
    refine Pv.istore (lo' := [some (.ref 69), some (.int l), some (.int (m_sum (h_u S) 12)), some (.int (-1)), some (.int 0)]) rfl rfl ?_
    rw [hQ]
    exact r_lg120 hG0 hT0 hTB hI hS0 hH0 hL hK h30 hnl hl hR hs (h4 0 (by omega)) (h4 1 (by omega)) _
  · skip
    replace c5 := mt (i_le (a := 4) (b := i) (by omega) (by omega)).mpr (of_decide_eq_false c5)
    refine Pv.aload rfl rfl ?_
    refine Pv.getR (v := .ref 81) rfl rfl (GW.at (a := 69) (k := 31) (b := 81) gK (by decide)) ?_
    refine Pv.iload rfl rfl ?_
    refine Pv.lit rfl ?_
    refine Pv.astk (k := i) (z := 0) rfl (i_toNat (by omega)) (rfl) ?_
    refine Pv.iinc (y := Int32.ofNat (i + 1)) (lo' := [some (.ref 69), some (.int l), some (.int (Int32.ofNat (i + 1))), none, none]) rfl rfl (i_add i 1) rfl ?_
    refine Pv.goto rfl ?_
    exact ih4 (i + 1, (fp K 81 i 0)) (⟨by omega, RTL.st hR, XS.sd hs hm8 (by decide), fun j hj => Or.elim (Classical.em (j = i)) (fun e => by rw [e]; exact fp_eq) (fun e => (fp_ne (Or.inr e)).trans (h4 j (by omega)))⟩)
end
-- 63.b92.lg.lean.txt
section
/-! ===== the reference reads a LOG ===== -/
theorem rkk_z0 {k : Int} : rkk k = 0 ↔ k = 0 := by
  refine ⟨fun h => ?_, fun h => by rw [h]; rfl⟩
  unfold rkk at h
  by_cases a : k = 0
  · exact a
  · exfalso
    rw [if_neg a] at h
    split at h
    · exact absurd h (by decide)
    · split at h
      · exact absurd h (by decide)
      · split at h
        · exact absurd h (by decide)
        · exact absurd h (by decide)
def RZX (F G : FW) : Prop := FX (fun q => q = 69 ∨ q = 73) F G ∧ (∀ k, k ≠ 4 → k ≠ 11 → k ≠ 12 → k ≠ 13 → k ≠ 14 → k ≠ 15 → k ≠ 16 → k ≠ 18 → k ≠ 30 → G.1 69 k = F.1 69 k) ∧ ∀ k, k ≠ 17 → G.2.2.1 69 k = F.2.2.1 69 k
theorem RZX.rf {F : FW} : RZX F F := ⟨FX.rf, fun _ _ _ _ _ _ _ _ _ _ => rfl, fun _ _ => rfl⟩
theorem RZX.yx {c : Nat} {F G K : FW} (h : RZX F G) (x : RYX c G K) : RZX F K := ⟨h.1.tr x.1, fun k a1 a2 a3 a4 a5 a6 a7 a8 a9 => (x.2.1 k a1 a2 a3 a4 a5 a6 a7 a8).trans (h.2.1 k a1 a2 a3 a4 a5 a6 a7 a8 a9), fun k a => (x.2.2.1 k a).trans (h.2.2 k a)⟩
theorem RZX.lx {F G K : FW} (h : RZX F G) (x : RLX G K) : RZX F K := h.yx (RYX.of (c := 0) x)
theorem RZX.p30 {F G : FW} {v : Int32} (h : RZX F G) : RZX F (fp G 69 30 v) := ⟨h.1.fp (Or.inl rfl), fun k a1 a2 a3 a4 a5 a6 a7 a8 a9 => (fp_ne (Or.inr a9)).trans (h.2.1 k a1 a2 a3 a4 a5 a6 a7 a8 a9), h.2.2⟩
theorem RZX.G {F G : FW} (h : RZX F G) (g : GW F) : GW G := g.fx h.1
theorem RZX.T {F G : FW} {T : St} (h : RZX F G) (t : XT F T) : XT G T := t.of fun k _ => h.1.1 71 k (by decide)
theorem RZX.S {F G : FW} {m : Nat} {S : Sh} (h : RZX F G) (hm : m ≤ 8) (t : XS F m S) : XS G m S := t.of hm fun k _ _ => h.1.1 71 k (by decide)
theorem RZX.H {F G : FW} {m n : Nat} {H : Nat → Sh} (h : RZX F G) (hm : m ≤ 8) (t : HSX F m n H) : HSX G m n H := HSX.same t hm (h.2.1 25 (by decide) (by decide) (by decide) (by decide) (by decide) (by decide) (by decide) (by decide) (by decide)) fun k => h.1.1 77 k (by decide)
theorem RZX.W {F G : FW} (h : RZX F G) (r : RWF F) : RWF G := fun j hj => (congrArg Int64.toInt (h.1.2.1 75 j (by decide))).trans (r j hj)
theorem RZX.N {F G : FW} {o n : Nat} {nm : Nat → Int} (h : RZX F G) (r : ∀ g, g < n → (F.2.2.1 74 (o + g)).toInt = nm (o + g)) : ∀ g, g < n → (G.2.2.1 74 (o + g)).toInt = nm (o + g) := fun j hj => (congrArg Int64.toInt (h.1.2.1 74 _ (by decide))).trans (r j hj)
theorem RTK.p30 {F : FW} {B : Nat → Int} {n lim i : Nat} {v : Int32} (h : RTK F B n lim i) : RTK (fp F 69 30 v) B n lim i :=
  ⟨(fp_ne (Or.inr (by decide))).trans h.1, (fp_ne (Or.inr (by decide))).trans h.2.1, (RBF_same fun k => fp_ne (Or.inl (by decide))).trans h.2.2.1, by
    have q := h.2.2.2.1
    exact ⟨(congrArg Int32.toInt (fp_ne (Or.inr (by decide)))).trans q.1, (fp_ne (Or.inr (by decide))).trans q.2.1, (congrArg Int32.toInt (fp_ne (Or.inr (by decide)))).trans q.2.2.1, fun e => (congrArg Int32.toInt (fp_ne (Or.inr (by decide)))).trans (q.2.2.2.1 e), fun e => (congrArg Int32.toInt (fp_ne (Or.inr (by decide)))).trans (q.2.2.2.2.1 e), fun e => q.2.2.2.2.2 e⟩, h.2.2.2.2⟩
theorem LIR.k {F G : FW} {l d w x : Nat} (h : LIR F l d w x) (e : ∀ q, q < 4 * (l + 1) → G.1 73 q = F.1 73 q) : LIR G l d w x :=
  ⟨(e _ (by omega)).trans h.1, fun c => ⟨(e _ (by omega)).trans (h.2.1 c).1, (e _ (by omega)).trans (h.2.1 c).2.1, (e _ (by omega)).trans (h.2.1 c).2.2⟩, fun c => (e _ (by omega)).trans (h.2.2.1 c), fun c => (e _ (by omega)).trans (h.2.2.2 c)⟩
/-- the lines there -/
def LRS (F : FW) (L : LN) (n : Nat) : Prop := ∀ l, l < n → LIR F l (L l).1 (L l).2.1 (L l).2.2
theorem LRS.k {c : Nat} {F G : FW} {L : LN} (h : LRS F L c) (x : RYX c F G) : LRS G L c := fun l hl => LIR.k (h l hl) fun q hq => x.2.2.2 q (by omega)
theorem LRS.l {c : Nat} {F G : FW} {L : LN} (h : LRS F L c) (x : RLX F G) : LRS G L c := fun l hl => LIR.k (h l hl) fun q _ => x.1.1 73 q (by decide)
theorem LRS.p {c k : Nat} {v : Int32} {F : FW} {L : LN} (h : LRS F L c) : LRS (fp F 69 k v) L c := fun l hl => LIR.k (h l hl) fun q _ => fp_ne (Or.inl (by decide))
theorem LRS.s {c d w n : Nat} {G : FW} {L : LN} (h : LRS G L c) (x : LIR G c d w n) : LRS G (upn L c (d, w, n)) (c + 1) := fun l hl => by
  show LIR G l (if l = c then (d, w, n) else L l).1 (if l = c then (d, w, n) else L l).2.1 (if l = c then (d, w, n) else L l).2.2
  by_cases e : l = c
  · rw [if_pos e, e]
    exact x
  · rw [if_neg e]
    exact h l (by omega)
theorem LYK.s {T : St} {c : Nat} {y : Nat × Nat × Nat} {L : LN} (h : ∀ l, l < c → LYK T (L l)) (x : LYK T y) : ∀ l, l < c + 1 → LYK T (upn L c y l) := fun l hl => by
  show LYK T (if l = c then y else L l)
  by_cases e : l = c
  · rw [if_pos e]
    exact x
  · rw [if_neg e]
    exact h l (by omega)
theorem hk0_ht {F : FW} {B : Nat → Int} {n lim i : Nat} (ht : RTK F B n lim i) (c : ¬ F.1 69 11 = 0) : (tok B n lim i).k ≠ 0 := fun e => c (Int32.toInt_inj.mp (ht.2.2.2.1.2.2.1.trans (by rw [e]; rfl)))
/-- what comes of a LOG: read and judged, or wrong at a token -/
def LGW (F F' : FW) (B : Nat → Int) (tn : Nat) (T : St) (S : Sh) (nm : Nat → Int) (n : Nat) (H : Nat → Sh) (l : Int32) (r : Option Value) : Prop :=
  (∃ nl L j F1, LGA (tok B tn 400) nm (t_g T) (t_m T) nl L 0 j ∧ (∀ q, q < nl → LYK T (L q)) ∧ RZX F F1 ∧ F1.1 69 15 = 0 ∧ r = some (.int (oN (m_fst (jP T L S) nl))) ∧ LGO F1 F' (t_m T) n S (jr T L S (jn nl (m_fst (jP T L S) nl))) H l (jn nl (m_fst (jP T L S) nl)) (jc T L S (m_fst (jP T L S) nl))) ∨
  ∃ v, r = some (.int (-2 - v)) ∧ ∃ nl L c j, LGA (tok B tn 400) nm (t_g T) (t_m T) nl L c j ∧ ¬ c = 0 ∧ RZX F F' ∧ F'.1 69 15 = c ∧ v.toInt = (tok B tn 400 j).pl
end
-- 63.b92a.lean.txt
section
set_option maxRecDepth 100000 in
set_option maxHeartbeats 4000000 in
theorem r_lg39 {F : FW} {B : Nat → Int} {tn n : Nat} {T : St} {S : Sh} {nm : Nat → Int} {H : Nat → Sh} {l : Int32} (hG : GW F) (hT : XT F T) (hTB : TBB T) (hI : INV T S) (hS : XS F (t_m T) S) (hH : HSX F (t_m T) n H) (hMg : ∀ g, g < t_g T → (F.2.2.1 74 (0 + g)).toInt = nm (0 + g)) (hMm : ∀ g, g < t_m T → (F.2.2.1 74 (6 + g)).toInt = nm (6 + g)) (hW : RWF F) (hl : l = 0 ∨ l = 1) (ht0 : RTK F B tn 400 0) (h15 : F.1 69 15 = 0) (h30 : F.1 69 30 = 0) (N : Nat) : Pv (ab_T (L_X11_log Z_X11_isIn Z_X11_taken Z_X11_next Z_X11_logLine Z_X11_sign Z_X11_tries Z_X11_does Z_X11_keep Z_X11_back)) N 39 [some (.ref 69), some (.int l), none, none, none] [] F (fun r F' => LGW F F' B tn T S nm n H l r) := by
  obtain ⟨Q, hQ⟩ : ∃ Q : Option Value → FW → Prop, Q = (fun r F' => LGW F F' B tn T S nm n H l r) := ⟨_, rfl⟩
  rw [← hQ]
  refine (show Pv (ab_T (L_X11_log Z_X11_isIn Z_X11_taken Z_X11_next Z_X11_logLine Z_X11_sign Z_X11_tries Z_X11_does Z_X11_keep Z_X11_back)) N 39 [some (.ref 69), some (.int l), none, none, none] [] F Q from ?_)
  refine Pv.lp (ι := Nat × Nat × LN × FW) (lof := fun ⟨k, i, L, G⟩ => [some (.ref 69), some (.int l), none, none, none]) (Ff := fun ⟨k, i, L, G⟩ => G) (P := fun ⟨k, i, L, G⟩ => k ≤ 40 ∧ RZX F G ∧ lgs (tok B tn 400) nm (t_g T) (t_m T) k = some (L, i) ∧ RTK G B tn 400 i ∧ G.1 69 15 = 0 ∧ G.1 69 30 = Int32.ofNat k ∧ LRS G L k ∧ ∀ l, l < k → LYK T (L l)) ?_ (0, 0, (fun _ => (0, 0, 0)), F) (⟨Nat.zero_le _, RZX.rf, rfl, ht0, h15, h30, fun l hl => absurd hl (Nat.not_lt_zero l), fun l hl => absurd hl (Nat.not_lt_zero l)⟩)
  rintro N1 hN2 ⟨k, i, L, G⟩ hi3 ih4
  refine (show Pv _ _ 39 [some (.ref 69), some (.int l), none, none, none] [] G Q from ?_)
  obtain ⟨hk, hz, hls, ht, h15, h30, hL, hK⟩ := hi3
  have gG := RZX.G hz hG
  refine Pv.aloadS rfl rfl ?_
  refine Pv.getI (z := G.1 69 11) rfl rfl (rfl) ?_
  refine Pv.if0 rfl (fun c5 => ?_) (fun c5 => ?_)
  · skip
    replace c5 := of_decide_eq_true c5
    have hk0 : ((tok B tn 400) i).k = 0 := rkk_z0.mp (ht.2.2.2.1.2.2.1.symm.trans (congrArg Int32.toInt c5))
    refine Pv.imp (r_lg83 gG (hz.T hT) hTB hI (hz.S hT.mb hS) (hz.H hT.mb hH) hL hK h30 hk hl _) ?_
    rintro r F' ⟨e, z⟩
    rw [hQ]
    exact Or.inl ⟨k, L, i, G, ⟨i, hls, lge_0 hk0⟩, hK, hz, h15, e, z⟩
  · skip
    replace c5 := of_decide_eq_false c5
    refine Pv.aload rfl rfl ?_
    refine Pv.callV (as := [.ref 69]) (rest := []) rfl rfl rfl (r_logLine (E := T) (nm := nm) (c := k) gG ht (hz.T hT) h30 hk (hz.N hMg) (hz.N hMm) (hz.W hW)) ?_
    rintro _ G1 ⟨rfl, hy, hm⟩
    have gG1 := RYX.G hy gG
    refine (show Pv _ _ 50 [some (.ref 69), some (.int l), none, none, none] [.int (ll_b (ll (tok B tn 400) nm (t_g T) (t_m T) k i))] G1 Q from ?_)
    refine Pv.if0 rfl (fun c6 => ?_) (fun c6 => ?_)
    · skip
      replace c6 := of_decide_eq_true c6
      have hk0 : ((tok B tn 400) i).k ≠ 0 := fun e => c5 (Int32.toInt_inj.mp (ht.2.2.2.1.2.2.1.trans (by rw [e]; rfl)))
      obtain ⟨q, j, el⟩ := ll_b0 c6
      have hm2 : G1.1 69 15 = q ∧ (G1.1 69 16).toInt = ((tok B tn 400) j).pl := by rw [el] at hm; exact hm
      refine Pv.lit rfl ?_
      refine Pv.aload rfl rfl ?_
      refine Pv.getI (z := G1.1 69 16) rfl rfl (rfl) ?_
      refine Pv.bin (z := (-2) - (G1.1 69 16)) rfl (rfl) ?_
      exact Pv.ret rfl (by rw [hQ]; exact Or.inr ⟨_, rfl, k, L, q, j, ⟨i, hls, lge_n hk0 el⟩, ll_nz el, hz.yx hy, hm2.1, hm2.2⟩)
    · skip
      replace c6 := of_decide_eq_false c6
      obtain ⟨d, w, x, j, el⟩ := ll_b1 c6
      have hm2 : RTK G1 B tn 400 j ∧ G1.1 69 15 = G.1 69 15 ∧ LIR G1 k d w x := by rw [el] at hm; exact hm
      have n40 := ll_40 el
      refine Pv.aload rfl rfl ?_
      refine Pv.lit rfl ?_
      refine Pv.callV (as := [.ref 69, .int 59]) (rest := []) rfl rfl rfl (r_sign gG1 hm2.1 (x := 59) rfl) ?_
      rintro _ G2 ⟨rfl, hsp⟩
      have gG2 := RLX.G hsp.1 gG1
      have h302 : G2.1 69 30 = Int32.ofNat k := (hsp.1.2.1 30 (by decide) (by decide) (by decide) (by decide) (by decide) (by decide) (by decide) (by decide)).trans ((hy.2.1 30 (by decide) (by decide) (by decide) (by decide) (by decide) (by decide) (by decide) (by decide)).trans h30)
      refine (show Pv _ _ 59 [some (.ref 69), some (.int l), none, none, none] [.int (b2i (decide (tnS ((tok B tn 400) j) 59 = 0)))] G2 Q from ?_)
      refine Pv.if0 rfl (fun c7 => ?_) (fun c7 => ?_)
      · skip
        replace c7 : decide (b2i (decide (tnS ((tok B tn 400) j) 59 = 0)) = 0) = false := by simpa using c7
        replace c7 := of_decide_eq_false c7
        replace c7 := b2n.mp c7
        refine Pv.aload rfl rfl ?_
        refine Pv.dup rfl ?_
        refine Pv.getI (z := Int32.ofNat k) rfl rfl (h302) ?_
        refine Pv.lit rfl ?_
        refine Pv.bin (z := Int32.ofNat (k + 1)) rfl (i_add k 1) ?_
        refine Pv.putI rfl rfl ?_
        refine Pv.goto rfl ?_
        exact ih4 ((k + 1), (j + 1), (upn L k (d, w, x)), (fp G2 69 30 (Int32.ofNat (k + 1)))) (⟨by omega, RZX.p30 (RZX.lx (hz.yx hy) hsp.1), lgs_y hls (hk0_ht ht c5) el (of_decide_eq_true c7), (hsp.2.1 (of_decide_eq_true c7)).1.p30, (fp_ne (Or.inr (by decide))).trans ((hsp.2.1 (of_decide_eq_true c7)).2.trans (hm2.2.1.trans h15)), fp_eq, ((((hL.k hy).s hm2.2.2).l hsp.1).p), LYK.s hK (ll_ok hT.gb el)⟩)
      · skip
        replace c7 : decide (b2i (decide (tnS ((tok B tn 400) j) 59 = 0)) = 0) = true := by simpa using c7
        replace c7 := of_decide_eq_true c7
        replace c7 := b2z.mp c7
        have hk0 : ((tok B tn 400) i).k ≠ 0 := fun e => c5 (Int32.toInt_inj.mp (ht.2.2.2.1.2.2.1.trans (by rw [e]; rfl)))
        refine Pv.lit rfl ?_
        refine Pv.aload rfl rfl ?_
        refine Pv.getI (z := G2.1 69 16) rfl rfl (rfl) ?_
        refine Pv.bin (z := (-2) - (G2.1 69 16)) rfl (rfl) ?_
        exact Pv.ret rfl (by rw [hQ]; exact Or.inr ⟨_, rfl, k, L, 1, j, ⟨i, hls, lge_s hk0 el (of_decide_eq_false c7)⟩, by decide, (hz.yx hy).lx hsp.1, (hsp.2.2 (of_decide_eq_false c7)).1.trans (tnS_1 (of_decide_eq_false c7)), (hsp.2.2 (of_decide_eq_false c7)).2⟩)
end
-- 63.b93.lg.lean.txt
section
/-! ===== the reference: LOG, whole ===== -/
/-- the tape is taken -/
def TKN (F G : FW) : Prop := FX (fun q => q = 69) F G ∧ (∀ k, k ≠ 0 → k ≠ 2 → k ≠ 3 → k ≠ 4 → k ≠ 5 → k ≠ 11 → k ≠ 12 → k ≠ 13 → k ≠ 14 → k ≠ 15 → k ≠ 30 → G.1 69 k = F.1 69 k) ∧ ∀ k, k ≠ 17 → G.2.2.1 69 k = F.2.2.1 69 k
theorem TKN.rf {F : FW} : TKN F F := ⟨FX.rf, fun _ _ _ _ _ _ _ _ _ _ _ _ => rfl, fun _ _ => rfl⟩
theorem TKN.nx {F G K : FW} (h : TKN F G) (x : RNX G K) : TKN F K := ⟨h.1.tr x.1, fun k a0 a2 a3 a4 a5 b1 b2 b3 b4 b5 c0 => (x.2.1 k a4 b1 b2 b3 b4).trans (h.2.1 k a0 a2 a3 a4 a5 b1 b2 b3 b4 b5 c0), fun k c => (x.2.2 k c).trans (h.2.2 k c)⟩
theorem TKN.G {F G : FW} (h : TKN F G) (g : GW F) : GW G := g.fx h.1
theorem TKN.T {F G : FW} {T : St} (h : TKN F G) (t : XT F T) : XT G T := t.of fun k _ => h.1.1 71 k (by decide)
theorem TKN.S {F G : FW} {m : Nat} {S : Sh} (h : TKN F G) (hm : m ≤ 8) (t : XS F m S) : XS G m S := t.of hm fun k _ _ => h.1.1 71 k (by decide)
theorem TKN.H {F G : FW} {m n : Nat} {H : Nat → Sh} (h : TKN F G) (hm : m ≤ 8) (t : HSX F m n H) : HSX G m n H := HSX.same t hm (h.2.1 25 (by decide) (by decide) (by decide) (by decide) (by decide) (by decide) (by decide) (by decide) (by decide) (by decide) (by decide)) fun k => h.1.1 77 k (by decide)
theorem TKN.W {F G : FW} (h : TKN F G) (r : RWF F) : RWF G := fun j hj => (congrArg Int64.toInt (h.1.2.1 75 j (by decide))).trans (r j hj)
theorem TKN.N {F G : FW} {o n : Nat} {nm : Nat → Int} (h : TKN F G) (r : ∀ g, g < n → (F.2.2.1 74 (o + g)).toInt = nm (o + g)) : ∀ g, g < n → (G.2.2.1 74 (o + g)).toInt = nm (o + g) := fun j hj => (congrArg Int64.toInt (h.1.2.1 74 _ (by decide))).trans (r j hj)
theorem TKN.fp {F G : FW} {k : Nat} {v : Int32} (h : TKN F G) (c : k = 0 ∨ k = 2 ∨ k = 3 ∨ k = 4 ∨ k = 5 ∨ k = 15 ∨ k = 30) : TKN F (fp G 69 k v) := ⟨h.1.fp rfl, fun j a0 a2 a3 a4 a5 b1 b2 b3 b4 b5 c0 => (fp_ne (Or.inr (by omega))).trans (h.2.1 j a0 a2 a3 a4 a5 b1 b2 b3 b4 b5 c0), h.2.2⟩
theorem RTK.of0 {F0 F G : FW} {n lim : Nat} (h : RNX F G) (e : ∀ k, F.1 70 k = F0.1 70 k) (h3 : F.1 69 3 = Int32.ofNat n) (h5 : F.1 69 5 = Int32.ofNat lim) (hN : NTF G (tkt (RBF F n) n lim 0)) (hn : n ≤ 940) (hl : lim ≤ 940) : RTK G (RBF F0 n) n lim 0 := by
  have q : RBF F n = RBF F0 n := RBF_same e
  rw [q] at hN
  exact ⟨(h.2.1 3 (by decide) (by decide) (by decide) (by decide) (by decide)).trans h3, (h.2.1 5 (by decide) (by decide) (by decide) (by decide) (by decide)).trans h5, (RBF_same fun k => h.1.1 70 k (by decide)).trans q, hN, hn, hl⟩
theorem i_01 {x : Int32} (c : (decide (0 ≤ x) && decide (x ≤ 1)) = true) : x = 0 ∨ x = 1 := by
  rw [Bool.and_eq_true, decide_eq_true_eq, decide_eq_true_eq, Int32.le_iff_toInt_le, Int32.le_iff_toInt_le] at c
  have h1 : (0 : Int32).toInt = 0 := rfl
  have h2 : (1 : Int32).toInt = 1 := rfl
  rw [h1, h2] at c
  rcases (by omega : x.toInt = 0 ∨ x.toInt = 1) with e | e
  · exact Or.inl (Int32.toInt_inj.mp e)
  · exact Or.inr (Int32.toInt_inj.mp e)
theorem i_01n {x : Int32} (c : (decide (0 ≤ x) && decide (x ≤ 1)) = false) : ¬ (x = 0 ∨ x = 1) := by
  rintro (rfl | rfl) <;> exact absurd c (by decide)
end
-- 63.b93a.lean.txt
section
set_option maxRecDepth 100000 in
set_option maxHeartbeats 4000000 in
theorem q_log {F : FW} {tn n : Nat} {T : St} {S : Sh} {nm : Nat → Int} {H : Nat → Sh} {l : Int32} (hG : GW F) (hT : XT F T) (hTB : TBB T) (hI : INV T S) (hS : XS F (t_m T) S) (hH : HSX F (t_m T) n H) (hMg : ∀ g, g < t_g T → (F.2.2.1 74 (0 + g)).toInt = nm (0 + g)) (hMm : ∀ g, g < t_m T → (F.2.2.1 74 (6 + g)).toInt = nm (6 + g)) (hW : RWF F) (h2 : F.1 69 2 = Int32.ofNat tn) (htn : tn ≤ 940) : Pm Z_X11_log [.ref 69, .int l] F (fun r F' => (¬ (l = 0 ∨ l = 1) ∧ r = some (.int (-1000)) ∧ F' = fp F 69 0 0) ∨ ((l = 0 ∨ l = 1) ∧ ∃ F1, TKN F F1 ∧ F1.1 69 2 = 0 ∧ LGW F1 F' (RBF F tn) tn T S nm n H l r)) := by
  refine Pm.of fun N => ?_
  obtain ⟨Q, hQ⟩ : ∃ Q : Option Value → FW → Prop, Q = (fun r F' => (¬ (l = 0 ∨ l = 1) ∧ r = some (.int (-1000)) ∧ F' = fp F 69 0 0) ∨ ((l = 0 ∨ l = 1) ∧ ∃ F1, TKN F F1 ∧ F1.1 69 2 = 0 ∧ LGW F1 F' (RBF F tn) tn T S nm n H l r)) := ⟨_, rfl⟩
  rw [← hQ]
  refine (show Pv (ab_T (L_X11_log Z_X11_isIn Z_X11_taken Z_X11_next Z_X11_logLine Z_X11_sign Z_X11_tries Z_X11_does Z_X11_keep Z_X11_back)) N 0 [some (.ref 69), some (.int l), none, none, none] [] F Q from ?_)
  refine Pv.aload rfl rfl ?_
  refine Pv.lit rfl ?_
  refine Pv.putI rfl rfl ?_
  refine Pv.iload rfl rfl ?_
  refine Pv.lit rfl ?_
  refine Pv.lit rfl ?_
  refine Pv.callI (as := [.int l, .int 0, .int 1]) (rest := []) (z := b2i (decide (0 ≤ l) && decide (l ≤ 1))) rfl rfl rfl (q_isIn l 0 1) ?_
  refine Pv.if0 rfl (fun c1 => ?_) (fun c1 => ?_)
  · skip
    replace c1 : decide (b2i (decide (0 ≤ l) && decide (l ≤ 1)) = 0) = false := by simpa using c1
    replace c1 := of_decide_eq_false c1
    replace c1 := b2n.mp c1
    refine Pv.aload rfl rfl ?_
    refine Pv.lit rfl ?_
    refine Pv.callV (as := [.ref 69, .int 400]) (rest := []) (Q' := (fun r F' => Pv (ab_T (L_X11_log Z_X11_isIn Z_X11_taken Z_X11_next Z_X11_logLine Z_X11_sign Z_X11_tries Z_X11_does Z_X11_keep Z_X11_back)) N 25 [some (.ref 69), some (.int l), none, none, none] (r.toList ++ []) F' Q)) rfl rfl rfl ?_ (fun r F' h => h)
    refine Pm.of fun N3 => ?_
    obtain ⟨Q2, hQ2⟩ : ∃ Qx : Option Value → FW → Prop, Qx = (fun r F' => Pv (ab_T (L_X11_log Z_X11_isIn Z_X11_taken Z_X11_next Z_X11_logLine Z_X11_sign Z_X11_tries Z_X11_does Z_X11_keep Z_X11_back)) N 25 [some (.ref 69), some (.int l), none, none, none] (r.toList ++ []) F' Q) := ⟨_, rfl⟩
    rw [← hQ2]
    refine (show Pv (ab_T L_X11_taken) N3 0 [some (.ref 69), some (.int 400)] [] (fp F 69 0 0) Q2 from ?_)
    refine Pv.aload rfl rfl ?_
    refine Pv.aload rfl rfl ?_
    refine Pv.getI (z := Int32.ofNat tn) rfl rfl ((fp_ne (Or.inr (by decide))).trans (h2)) ?_
    refine Pv.putI rfl rfl ?_
    refine Pv.aload rfl rfl ?_
    refine Pv.lit rfl ?_
    refine Pv.putI rfl rfl ?_
    refine Pv.aload rfl rfl ?_
    refine Pv.lit rfl ?_
    refine Pv.putI rfl rfl ?_
    refine Pv.aload rfl rfl ?_
    refine Pv.iload rfl rfl ?_
    refine Pv.putI rfl rfl ?_
    refine Pv.vret rfl ?_
    rw [hQ2]
    refine (show Pv (ab_T (L_X11_log Z_X11_isIn Z_X11_taken Z_X11_next Z_X11_logLine Z_X11_sign Z_X11_tries Z_X11_does Z_X11_keep Z_X11_back)) N 25 [some (.ref 69), some (.int l), none, none, none] [] (fp (fp (fp (fp (fp F 69 0 0) 69 3 (Int32.ofNat tn)) 69 2 0) 69 4 0) 69 5 400) Q from ?_)
    refine Pv.aload rfl rfl ?_
    refine Pv.lit rfl ?_
    refine Pv.putI rfl rfl ?_
    refine Pv.aload rfl rfl ?_
    refine Pv.lit rfl ?_
    refine Pv.putI rfl rfl ?_
    refine Pv.aload rfl rfl ?_
    have k1 : TKN F (fp (fp (fp (fp (fp (fp (fp F 69 0 0) 69 3 (Int32.ofNat tn)) 69 2 0) 69 4 0) 69 5 400) 69 15 0) 69 30 0) := (TKN.fp (TKN.fp (TKN.fp (TKN.fp (TKN.fp (TKN.fp (TKN.fp TKN.rf (Or.inl rfl)) (Or.inr (Or.inr (Or.inl rfl)))) (Or.inr (Or.inl rfl))) (Or.inr (Or.inr (Or.inr (Or.inl rfl))))) (Or.inr (Or.inr (Or.inr (Or.inr (Or.inl rfl)))))) (Or.inr (Or.inr (Or.inr (Or.inr (Or.inr (Or.inl rfl))))))) (Or.inr (Or.inr (Or.inr (Or.inr (Or.inr (Or.inr rfl)))))))
    refine Pv.callV (as := [.ref 69]) (rest := []) rfl rfl rfl (g_next (n := tn) (p := 0) (lim := 400) (k1.G hG) ((fp_ne (Or.inr (by decide))).trans ((fp_ne (Or.inr (by decide))).trans ((fp_ne (Or.inr (by decide))).trans ((fp_ne (Or.inr (by decide))).trans ((fp_ne (Or.inr (by decide))).trans (fp_eq)))))) ((fp_ne (Or.inr (by decide))).trans ((fp_ne (Or.inr (by decide))).trans ((fp_ne (Or.inr (by decide))).trans (fp_eq)))) ((fp_ne (Or.inr (by decide))).trans ((fp_ne (Or.inr (by decide))).trans (fp_eq))) htn (Nat.zero_le _) (by decide)) ?_
    rintro _ G ⟨rfl, x1, x2⟩
    have k2 : TKN F G := k1.nx x1
    have gG := k2.G hG
    have e2 : G.1 69 2 = 0 := (x1.2.1 2 (by decide) (by decide) (by decide) (by decide) (by decide)).trans ((fp_ne (Or.inr (by decide))).trans ((fp_ne (Or.inr (by decide))).trans ((fp_ne (Or.inr (by decide))).trans ((fp_ne (Or.inr (by decide))).trans (fp_eq)))))
    have e15 : G.1 69 15 = 0 := (x1.2.1 15 (by decide) (by decide) (by decide) (by decide) (by decide)).trans ((fp_ne (Or.inr (by decide))).trans (fp_eq))
    have e30 : G.1 69 30 = 0 := (x1.2.1 30 (by decide) (by decide) (by decide) (by decide) (by decide)).trans (fp_eq)
    have ht : RTK G (RBF F tn) tn 400 0 := RTK.of0 x1 (fun k => (fp_ne (Or.inl (by decide))).trans ((fp_ne (Or.inl (by decide))).trans ((fp_ne (Or.inl (by decide))).trans ((fp_ne (Or.inl (by decide))).trans ((fp_ne (Or.inl (by decide))).trans ((fp_ne (Or.inl (by decide))).trans (fp_ne (Or.inl (by decide))))))))) ((fp_ne (Or.inr (by decide))).trans ((fp_ne (Or.inr (by decide))).trans ((fp_ne (Or.inr (by decide))).trans ((fp_ne (Or.inr (by decide))).trans ((fp_ne (Or.inr (by decide))).trans (fp_eq)))))) ((fp_ne (Or.inr (by decide))).trans ((fp_ne (Or.inr (by decide))).trans (fp_eq))) x2 htn (by decide)
    refine (show Pv _ _ 39 [some (.ref 69), some (.int l), none, none, none] [] G Q from ?_)
    have hl := i_01 c1
    refine Pv.imp (r_lg39 (k2.G hG) (k2.T hT) hTB hI (k2.S hT.mb hS) (k2.H hT.mb hH) (k2.N hMg) (k2.N hMm) (k2.W hW) hl ht e15 e30 _) ?_
    rintro r F' z
    rw [hQ]
    exact Or.inr ⟨hl, G, k2, e2, z⟩
  · skip
    replace c1 : decide (b2i (decide (0 ≤ l) && decide (l ≤ 1)) = 0) = true := by simpa using c1
    replace c1 := of_decide_eq_true c1
    replace c1 := b2z.mp c1
    refine Pv.lit rfl ?_
    exact Pv.ret rfl (by rw [hQ]; exact Or.inl ⟨i_01n c1, rfl, rfl⟩)
end
-- 63.b94.pw.lean.txt
section
/-! ===== a run from one heap (of which more is known than its cells): until the first call ===== -/
def Pw (T : Nat → Option ab_A) (N i : Nat) (lo : List (Option Value)) (st : List Value) (hp : ab_H) (Q : Option Value → FW → Prop) : Prop := ∀ (f : Nat) (u : Nat × Nat) (o : ab_O), f < N → ab_run T f i (lo, st, u, hp) = some o → wt o.2 ∧ Q o.1 (fl o.2)
def Pj (X : List Value → ab_H → Option ab_O) (as : List Value) (hp : ab_H) (Q : Option Value → FW → Prop) : Prop := ∀ o : ab_O, X as hp = some o → wt o.2 ∧ Q o.1 (fl o.2)
theorem Pj.of {L : List (Nat × ab_A)} {nL : Nat} {as : List Value} {hp : ab_H} {Q : Option Value → FW → Prop} (h : ∀ N, Pw (ab_T L) N 0 (ab_en nL as) [] hp Q) : Pj (ab_X (ab_T L) nL) as hp Q := by
  intro o e
  obtain ⟨-, f, hf⟩ := ab_X_run e
  exact h (f + 1) f (0, 0) o (Nat.lt_succ_self f) hf
theorem Pj.imp {X : List Value → ab_H → Option ab_O} {as : List Value} {hp : ab_H} {Q Q' : Option Value → FW → Prop} (h : Pj X as hp Q) (g : ∀ r F', Q r F' → Q' r F') : Pj X as hp Q' := fun o e => ⟨(h o e).1, g _ _ (h o e).2⟩
section PWS
variable {T : Nat → Option ab_A} {N i j : Nat} {lo : List (Option Value)} {st : List Value} {hp : ab_H} {Q : Option Value → FW → Prop}
theorem Pw.v (hw : wt hp) (h : Pv T N i lo st (fl hp) Q) : Pw T N i lo st hp Q := fun f u o hf e => h f u hp o hf hw rfl e
theorem Pw.nx {f : ab_S → Option ab_S} (hT : T i = some (ab_nx j f)) (h : ∀ u s, f (lo, st, u, hp) = some s → ∀ M, M < N → Pw T (M + 1) j s.1 s.2.1 s.2.2.2 Q) : Pw T N i lo st hp Q := by
  intro g u o hg hr
  cases g with
  | zero => cases hr
  | succ g =>
    rw [ab_run, hT] at hr
    dsimp only [ab_nx] at hr
    cases e : f (lo, st, u, hp) with
    | none =>
      rw [e] at hr
      cases hr
    | some s =>
      rw [e] at hr
      obtain ⟨lo', st', u', hp'⟩ := s
      exact h u _ e g (by omega) g u' o (Nat.lt_succ_self g) hr
theorem Pw.mono {M : Nat} (h : Pw T N i lo st hp Q) (hn : M ≤ N) : Pw T M i lo st hp Q := fun f u o hf => h f u o (Nat.lt_of_lt_of_le hf hn)
theorem Pw.pu {f : ab_S → Option ab_S} {lo' : List (Option Value)} {st' : List Value} (hT : T i = some (ab_nx j f)) (hf : ∀ u s, f (lo, st, u, hp) = some s → s = (lo', st', u, hp)) (h : Pw T N j lo' st' hp Q) : Pw T N i lo st hp Q :=
  Pw.nx hT fun u s e M hM => by
    obtain rfl := hf u s e
    exact Pw.mono h (by omega)
theorem Pw.lit {v : Value} (hT : T i = some (ab_nx j (ab_lit v))) (h : Pw T N j lo (v :: st) hp Q) : Pw T N i lo st hp Q := Pw.pu hT (fun _ _ e => (Option.some.inj e).symm) h
theorem Pw.iload {k : Nat} {x : Int32} (hT : T i = some (ab_nx j (ab_iload k))) (hl : lo[k]? = some (some (.int x))) (h : Pw T N j lo (.int x :: st) hp Q) : Pw T N i lo st hp Q := Pw.pu hT (fun u s e => by
  unfold ab_iload at e
  dsimp only at e
  rw [hl] at e
  exact (Option.some.inj e).symm) h
theorem Pw.aload {k a : Nat} (hT : T i = some (ab_nx j (ab_aload k))) (hl : lo[k]? = some (some (.ref a))) (h : Pw T N j lo (.ref a :: st) hp Q) : Pw T N i lo st hp Q := Pw.pu hT (fun u s e => by
  unfold ab_aload at e
  dsimp only at e
  rw [hl] at e
  exact (Option.some.inj e).symm) h
theorem Pw.getR {ci k a : Nat} {v : Value} (hw : wt hp) (hT : T i = some (ab_nx j (ab_getf ci k))) (hk : fk ci k = 1) (hz : (fl hp).2.1 a k = v) (h : Pw T N j lo (v :: st) hp Q) : Pw T N i lo (.ref a :: st) hp Q :=
  Pw.pu hT (fun u s e => by
    obtain ⟨fs, w, ha, hc, hv, rfl⟩ := v_getf e
    have hy := (hw a ci fs k w ha hc hv).resolve_left (by rw [hk]; decide)
    rw [hk] at hy
    have e2 : w = v := by
      rw [← hz]
      show w = gr hp a k
      unfold gr
      rw [hc]
      dsimp only
      rw [hv]
      cases w with
      | ref x => rfl
      | null => rfl
      | _ => cases hy
    rw [e2]) h
theorem Pw.callV {nA ci mc ms MC MS : Nat} {X : List Value → ab_H → Option ab_O} {as rest : List Value} (hT : T i = some (ab_nx j (ab_callV nA ci X mc ms MC MS))) (ha : (st.take nA).reverse = as) (hr : st.drop nA = rest) (h : ∀ o, X as hp = some o → Pw T N j lo (o.1.toList ++ rest) o.2 Q) : Pw T N i lo st hp Q :=
  Pw.nx hT fun u s e M hM => by
    unfold ab_callV at e
    rw [Bool.cond_eq_ite] at e
    split at e
    · obtain ⟨o, ho, rfl⟩ := v_call e
      rw [ha] at ho
      show Pw T (M + 1) j lo (o.1.toList ++ st.drop nA) o.2 Q
      rw [hr]
      exact Pw.mono (h o ho) (by omega)
    · cases e
theorem Pw.run {a : ab_A} {s : Nat} {lo' : List (Option Value)} {st' : List Value} (hT : T i = some a) (ha : ∀ u, a (lo, st, u, hp) = some (.inl (s, lo', st', u, hp))) (h : Pw T N s lo' st' hp Q) : Pw T N i lo st hp Q := by
  intro g u o hg hr
  cases g with
  | zero => cases hr
  | succ g =>
    rw [ab_run, hT] at hr
    dsimp only at hr
    rw [ha] at hr
    exact h g u o (by omega) hr
theorem Pw.if0 {t : Nat} {g : Int32 → Bool} {x : Int32} (hT : T i = some (ab_if j t g)) (h1 : g x = true → Pw T N t lo st hp Q) (h2 : g x = false → Pw T N j lo st hp Q) : Pw T N i lo (.int x :: st) hp Q := by
  cases e : g x with
  | true => exact Pw.run hT (fun u => by show some (Sum.inl (cond (g x) t j, _)) = _; rw [e]; rfl) (h1 e)
  | false => exact Pw.run hT (fun u => by show some (Sum.inl (cond (g x) t j, _)) = _; rw [e]; rfl) (h2 e)
theorem Pw.icmp {t : Nat} {g : Int32 → Int32 → Bool} {x y : Int32} (hT : T i = some (ab_icmp j t g)) (h1 : g x y = true → Pw T N t lo st hp Q) (h2 : g x y = false → Pw T N j lo st hp Q) : Pw T N i lo (.int y :: .int x :: st) hp Q := by
  cases e : g x y with
  | true => exact Pw.run hT (fun u => by show some (Sum.inl (cond (g x y) t j, _)) = _; rw [e]; rfl) (h1 e)
  | false => exact Pw.run hT (fun u => by show some (Sum.inl (cond (g x y) t j, _)) = _; rw [e]; rfl) (h2 e)
end PWS
end
-- 63.b95.mv.lean.txt
section
/-! ===== from what is known of a typed heap to cells ===== -/
theorem gi_rd {hp : ab_H} {a k : Nat} {v : Int} (h : sf_rd hp a k = some v) : ((fl hp).1 a k).toInt = v := by
  show (gi hp a k).toInt = v
  unfold sf_rd at h
  unfold gi
  split at h
  · rename_i o ho
    rw [ho]
    dsimp only
    unfold sf_iv at h
    split at h
    · rename_i x hx
      rw [hx]
      exact Option.some.inj h
    · cases h
  · rename_i x hx
    rw [hx]
    dsimp only
    split at h
    · rename_i f hf
      rw [hf]
      dsimp only
      rw [Bool.cond_eq_ite] at h
      split at h
      · exact Option.some.inj h
      · cases h
    · cases h
theorem gl_rl {hp : ab_H} {a k : Nat} {w : Int64} (h : sf_rl hp a k = some w) : (fl hp).2.2.1 a k = w := by
  show gl hp a k = w
  unfold sf_rl at h
  unfold gl
  split at h
  · rename_i o ho
    rw [ho]
    dsimp only
    split at h
    · rename_i x hx
      rw [hx]
      exact Option.some.inj h
    · cases h
  · rename_i x hx
    rw [hx]
    dsimp only
    split at h
    · rename_i f hf
      rw [hf]
      dsimp only
      rw [Bool.cond_eq_ite] at h
      split at h
      · exact Option.some.inj h
      · cases h
    · cases h
theorem sfr_frz {P : Nat → Prop} {W : List (Nat × Nat × Nat)} {t t' : Nat → Nat} {hp hp' : ab_H} (H : sf_h t hp) (f : sf_fr W t hp t' hp') (hW : ∀ w ∈ W, ∃ q, sf_P w.1 = some q ∧ P q) : FRZ P (fl hp) (fl hp') := by
  refine ⟨f.1, fun a ha c => ?_⟩
  have e : hp'.2 a = hp.2 a := f.2.2.2.1 a ha (by
    rw [List.all_eq_true]
    intro w hw
    refine decide_eq_true fun e => ?_
    obtain ⟨q, hq, hP⟩ := hW w hw
    rw [e] at hq
    obtain rfl := H.2.1 a q ha hq
    exact c hP)
  refine ⟨fun k => ?_, fun k => ?_, fun k => ?_⟩
  · show gi hp' a k = gi hp a k
    unfold gi
    rw [e]
  · show gr hp' a k = gr hp a k
    unfold gr
    rw [e]
  · show gl hp' a k = gl hp a k
    unfold gl
    rw [e]
theorem sfh_ref {t : Nat → Nat} {hp : ab_H} {g p k g1 q : Nat} (H : sf_h t hp) (hP : sf_P g = some p) (hg : g < 100) (hk : (sf_C g)[k]? = some (1, (g1 : Int), 0)) (hq : sf_P g1 = some q) : (fl hp).2.1 p k = .ref q := by
  show gr hp p k = .ref q
  obtain ⟨a1, a2⟩ := H.2.2.1 g p hP
  have c := H.1 p a1
  rw [a2] at c
  unfold sf_c at c
  unfold gr
  split at c
  · rename_i o ho
    rw [ho]
    dsimp only
    obtain ⟨v, hv, hk'⟩ := c.2.2 k _ hk
    rw [hv]
    unfold sf_v at hk'
    split at hk'
    · exact absurd hk'.1 (by show ¬ (1 : Nat) = 0; decide)
    · rename_i b
      obtain ⟨-, hb, ht⟩ := hk'
      have ht' : (t b : Int) = (g1 : Int) := ht
      obtain rfl := H.2.1 b q hb (by rw [show t b = g1 by omega]; exact hq)
      rfl
    · exact absurd hk'.2 (by show ¬ (0 : Int) = 1; decide)
    · exact absurd hk' (by show ¬ (1 : Nat) = 2; decide)
    · exact absurd hk' id
  · exact absurd c.1 (by omega)
abbrev MVP (q : Nat) : Prop := q = 1 ∨ q = 3 ∨ q = 4 ∨ q = 5 ∨ q = 6

theorem wires_mv : ∀ y ∈ wires, MVP y.1 → y = (1, 0, 2) ∨ y = (3, 0, 4) ∨ y = (3, 1, 5) ∨ y = (3, 2, 6) := by decide
/-- what is known when the tape was cut into tokens -/
def MVQ (F F' : FW) (B : Nat → Int) (n lim : Nat) : Prop := FRZ MVP F F' ∧ GW F' ∧ F'.1 3 4 = Int32.ofNat 0 ∧ F'.1 3 9 = 0 ∧ F'.1 1 1 = 0 ∧ ∃ m, TKF F' (tok B n lim) m
theorem tks_flat {hp : ab_H} {B : Nat → Int} {n lim m : Nat} (h : TKS hp B n lim m) : TKF (fl hp) (tok B n lim) m := by
  have more := fun j (hj : j < m) a b => CK_more h hj a b
  obtain ⟨h1, h2, h3, h4, -, -⟩ := h
  refine ⟨h1, h2, (i_ofv (gi_rd h3) (by omega)).trans (by rw [show ((m : Int)).toNat = m by omega]), fun j hj => ?_, more⟩
  obtain ⟨a, b, w, hw, e3, e2⟩ := h4 j hj
  exact ⟨gi_rd a, gi_rd b, fun e => by rw [gl_rl hw]; exact e3 e, fun e => by rw [gl_rl hw]; exact e2 e, ⟨tok_nok B n lim j, fun e => (tok_wok B n lim j (Or.inl e)).1⟩⟩
theorem mv_flat {t : Nat → Nat} {hp : ab_H} {x n : Nat} (H : sf_h t hp) (hx : x ≤ 900) (hce : sf_cE kq_X8_moveInto_v Z_X8_moveInto ke_X8_moveInto_v) (hG : GW (fl hp)) (h88 : 88 ≤ hp.1) (hn : sf_rd hp 1 1 = some (n : Int)) : Pj Z_X8_moveInto [.ref 1, .ref 3, .int (Int32.ofNat x)] hp (fun r F' => r = none ∧ MVQ (fl hp) F' (bv hp 2 n) n x) := by
  intro o e
  obtain ⟨a1, a2⟩ := H.2.2.1 8 1 rfl
  obtain ⟨b1, b2⟩ := H.2.2.1 9 3 rfl
  have xi : (Int32.ofNat x).toInt = x := i_toInt (by omega)
  obtain ⟨r, hp', t', e', H', f, an, -, E⟩ := hce t hp [.ref 1, .ref 3, .int (Int32.ofNat x)] H rfl (fun i j hj => match i, hj with
    | 0, hj => by cases hj; exact sf_j1 a1 a2
    | 1, hj => by cases hj; exact sf_j1 b1 b2
    | 2, hj => by cases hj; exact sf_j0
    | i + 3, hj => by cases hj) (sf_S_cons (sf_s1 (x := (Int32.ofNat x).toInt) rfl (by omega) (by omega)) sf_S_nil)
  obtain rfl := Option.some.inj (e.symm.trans e')
  obtain ⟨m, tk, h4, h9, h1⟩ := E n hn
  have Z : FRZ MVP (fl hp) (fl hp') := sfr_frz H f (by
    intro w hw
    have : w = (8, 1, 2) ∨ w = (9, 3, 3) ∨ w = (9, 4, 4) ∨ w = (9, 9, 9) ∨ w = (124, 0, 900) ∨ w = (125, 0, 900) ∨ w = (126, 0, 0) := by simpa [kq_X8_moveInto_v] using hw
    rcases this with rfl | rfl | rfl | rfl | rfl | rfl | rfl
    · exact ⟨1, rfl, by decide⟩
    · exact ⟨3, rfl, by decide⟩
    · exact ⟨3, rfl, by decide⟩
    · exact ⟨3, rfl, by decide⟩
    · exact ⟨4, rfl, by decide⟩
    · exact ⟨5, rfl, by decide⟩
    · exact ⟨6, rfl, by decide⟩)
  refine ⟨wt_of H', an.1 rfl, Z, ?_, ?_, ?_, ?_, m, ?_⟩
  · intro y my
    by_cases c : MVP y.1
    · rcases wires_mv y my c with rfl | rfl | rfl | rfl
      · exact sfh_ref H' (g := 8) (g1 := 123) rfl (by decide) rfl rfl
      · exact sfh_ref H' (g := 9) (g1 := 124) rfl (by decide) rfl rfl
      · exact sfh_ref H' (g := 9) (g1 := 125) rfl (by decide) rfl rfl
      · exact sfh_ref H' (g := 9) (g1 := 126) rfl (by decide) rfl rfl
    · exact ((Z.2 y.1 (by have := (wires_lt y my).2; show y.1 < hp.1; omega) c).2.1 _).trans (hG y my)
  · exact Int32.toInt_inj.mp (gi_rd h4)
  · exact Int32.toInt_inj.mp (gi_rd h9)
  · exact Int32.toInt_inj.mp (gi_rd h1)
  · have q := tks_flat tk
    have e1 : mv_l [.ref 1, .ref 3, .int (Int32.ofNat x)] = x := by
      show (Int32.ofNat x).toInt.toNat = x
      rw [xi]
      omega
    rw [e1, show ((n : Int)).toNat = n by omega] at q
    exact q
end
-- 63.b96.lg.lean.txt
section
/-! ===== the class: LOG, whole ===== -/
theorem KF.wd {P P' : Nat → Prop} {F G : FW} (h : KF P F G) (w : ∀ a, P a → P' a) : KF P' F G := ⟨h.1, h.2.1, fun a ha h1 h2 h3 => ⟨fun k c => (h.2.2.1 a ha h1 h2 h3).1 k (fun p => c (w a p)), (h.2.2.1 a ha h1 h2 h3).2.1, fun k c => (h.2.2.1 a ha h1 h2 h3).2.2 k (fun p => c (w a p))⟩, h.2.2.2⟩
theorem LNS.e {F G : FW} {L : LN} {n : Nat} (h : LNS F L n) (e : ∀ a k, 37 ≤ a → a ≤ 39 → G.1 a k = F.1 a k) : LNS G L n := fun l hl => ⟨(e _ _ (by decide) (by decide)).trans (h l hl).1, (e _ _ (by decide) (by decide)).trans (h l hl).2.1, (e _ _ (by decide) (by decide)).trans (h l hl).2.2⟩
/-- lines that a text says are lines -/
theorem lgs_ok {K : Nat → TT} {nm : Nat → Int} {T : St} (hg : t_g T ≤ 6) : ∀ {n i : Nat} {L : LN}, lgs K nm (t_g T) (t_m T) n = some (L, i) → ∀ l, l < n → LYK T (L l)
  | 0, _, _, _ => fun l hl => absurd hl (Nat.not_lt_zero l)
  | n + 1, i, L, h => by
    have h' : lgn K nm (t_g T) (t_m T) n (lgs K nm (t_g T) (t_m T) n) = some (L, i) := h
    cases e : lgs K nm (t_g T) (t_m T) n with
    | none =>
      rw [e] at h'
      cases h'
    | some y =>
      obtain ⟨L', i'⟩ := y
      rw [e] at h'
      have ih := lgs_ok hg e
      have h2 : (if (K i').k = 0 then none else lgj K L' n (ll K nm (t_g T) (t_m T) n i')) = some (L, i) := h'
      by_cases k0 : (K i').k = 0
      · rw [if_pos k0] at h2
        cases h2
      · rw [if_neg k0] at h2
        cases el : ll K nm (t_g T) (t_m T) n i' with
        | inr z =>
          rw [el] at h2
          cases h2
        | inl y =>
          obtain ⟨d, w, x, j⟩ := y
          rw [el] at h2
          have h3 : (if tnS (K j) 59 = 0 then some (upn L' n (d, w, x), j + 1) else none) = some (L, i) := h2
          by_cases s0 : tnS (K j) 59 = 0
          · rw [if_pos s0] at h3
            obtain ⟨rfl, -⟩ := Prod.mk.inj (Option.some.inj h3)
            exact LYK.s ih (ll_ok hg (show ll K nm (t_g T) (t_m T) n i' = ll_y d w x j from el))
          · rw [if_neg s0] at h3
            cases h3
theorem LGA.ok {K : Nat → TT} {nm : Nat → Int} {T : St} {n j : Nat} {L : LN} {c : Int32} (hg : t_g T ≤ 6) (h : LGA K nm (t_g T) (t_m T) n L c j) : ∀ l, l < n → LYK T (L l) := by
  obtain ⟨i, h1, -⟩ := h
  exact lgs_ok hg h1
def LCF (G : FW) (c : Int32) (kk : Nat) (S S2 : Sh) : Prop := G.1 44 0 = c ∧ G.1 44 1 = Int32.ofNat kk ∧ G.1 44 2 = Int32.ofNat (h_d S2) ∧ G.1 44 3 = m_sum (h_u S2) 12 - m_sum (h_u S) 12
theorem LCF.of {F G : FW} {c : Int32} {kk : Nat} {S S2 : Sh} (f : LCF F c kk S S2) (e : ∀ k, G.1 44 k = F.1 44 k) : LCF G c kk S S2 := ⟨(e 0).trans f.1, (e 1).trans f.2.1, (e 2).trans f.2.2.1, (e 3).trans f.2.2.2⟩
/-- where a LOG may write, the tape's cutting aside -/
def LCP (q : Nat) : Prop := q = 0 ∨ q = 3 ∨ (36 ≤ q ∧ q ≤ 39) ∨ (12 ≤ q ∧ q ≤ 27) ∨ (7 ≤ q ∧ q ≤ 9) ∨ q = 44
def LCW (F F' : FW) (K : Nat → TT) (T : St) (S : Sh) (nm : Nat → Int) (n : Nat) (H : Nat → Sh) (l : Int32) (r : Option Value) : Prop :=
  KF LCP F F' ∧ (∀ k, k ≠ 18 → F'.1 0 k = F.1 0 k) ∧
  ((∃ nl L j, LGA K nm (t_g T) (t_m T) nl L 0 j ∧ r = some (.int (oN (m_fst (jP T L S) nl))) ∧ F'.1 0 18 = 0 ∧ HK (decide (l = 1) && decide (0 < jn nl (m_fst (jP T L S) nl))) F' (t_m T) n H S ∧ SHR F' 12 (t_m T) (if l = 1 then jr T L S (jn nl (m_fst (jP T L S) nl)) else S) ∧ LCF F' (jc T L S (m_fst (jP T L S) nl)) (jn nl (m_fst (jP T L S) nl)) S (jr T L S (jn nl (m_fst (jP T L S) nl)))) ∨
  (∃ v, r = some (.int (-2 - v)) ∧ HST F' (t_m T) n H ∧ SHR F' 12 (t_m T) S ∧ (∀ k, F'.1 44 k = F.1 44 k) ∧ ∃ nl L c j, LGA K nm (t_g T) (t_m T) nl L c j ∧ ¬ c = 0 ∧ F'.1 0 18 = c ∧ v.toInt = (K j).pl))
end
-- 63.b97a.lean.txt
section
set_option maxRecDepth 100000 in
set_option maxHeartbeats 4000000 in
theorem o_lg121y {F : FW} {m n kk : Nat} {S S2 : Sh} {H : Nat → Sh} {a : Int32} (hG : GW F) (hm : m ≤ 8) (hS : SHR F 12 m S) (hS2 : SHR F 20 m S2) (hH : HST F m n H) (h88 : 88 ≤ F.2.2.2.1) (h44 : F.1 44 1 = Int32.ofNat kk) (hkk : kk ≤ 40) (hz : kk = 0 → S2 = S) (N : Nat) : Pv (ab_T (L_X10_log Z_X8_moveInto Z_X4_readText Z_X6_copyFrom Z_X10_judgeLog Z_X6_hungerInAll Z_X2_keep)) N 121 [some (.ref 0), some (.int 1), some (.int a)] [] F (fun r F' => r = some (.int a) ∧ KF (fun q => 12 ≤ q ∧ q ≤ 19) F F' ∧ HK (decide (0 < kk)) F' m n H S ∧ SHR F' 12 m S2) := by
  obtain ⟨Q, hQ⟩ : ∃ Q : Option Value → FW → Prop, Q = (fun r F' => r = some (.int a) ∧ KF (fun q => 12 ≤ q ∧ q ≤ 19) F F' ∧ HK (decide (0 < kk)) F' m n H S ∧ SHR F' 12 m S2) := ⟨_, rfl⟩
  rw [← hQ]
  refine (show Pv (ab_T (L_X10_log Z_X8_moveInto Z_X4_readText Z_X6_copyFrom Z_X10_judgeLog Z_X6_hungerInAll Z_X2_keep)) N 121 [some (.ref 0), some (.int 1), some (.int a)] [] F Q from ?_)
  refine Pv.iload rfl rfl ?_
  refine Pv.lit rfl ?_
  refine Pv.icmp rfl (fun c1 => ?_) (fun c1 => ?_)
  · skip
    replace c1 : decide ((1 : Int32) = 1) = false := by simpa using c1
    replace c1 := mt (i_eq (a := 1) (b := 1) (by omega) (by omega)).mpr (of_decide_eq_false c1)
    omega
  · skip
    replace c1 : decide ((1 : Int32) = 1) = true := by simpa using c1
    replace c1 := (i_eq (a := 1) (b := 1) (by omega) (by omega)).mp (of_decide_eq_true c1)
    refine Pv.aload rfl rfl ?_
    refine Pv.getR (v := .ref 44) rfl rfl (GW.at (a := 0) (k := 12) (b := 44) hG (by decide)) ?_
    refine Pv.lit rfl ?_
    refine Pv.ald (z := Int32.ofNat kk) rfl (h44) ?_
    refine Pv.if0 rfl (fun c2 => ?_) (fun c2 => ?_)
    · skip
      replace c2 := (i_le (a := kk) (b := 0) (by omega) (by omega)).mp (of_decide_eq_true c2)
      refine Pv.iload rfl rfl ?_
      exact Pv.ret rfl (by rw [hQ]; exact ⟨rfl, KF.rf, HK.f hH (decide_eq_false (by omega)), by rw [hz (by omega)]; exact hS⟩)
    · skip
      replace c2 := mt (i_le (a := kk) (b := 0) (by omega) (by omega)).mpr (of_decide_eq_false c2)
      refine Pv.aload rfl rfl ?_
      refine Pv.getR (v := .ref 10) rfl rfl (GW.at (a := 0) (k := 3) (b := 10) hG (by decide)) ?_
      refine Pv.aload rfl rfl ?_
      refine Pv.getR (v := .ref 12) rfl rfl (GW.at (a := 0) (k := 4) (b := 12) hG (by decide)) ?_
      refine Pv.callV (as := [.ref 10, .ref 12]) (rest := []) rfl rfl rfl (f_keep hG hH hS hm h88) ?_
      rintro _ G ⟨rfl, hH2, hK⟩
      have hG2 := hK.gw hH hG h88
      have s20 := hK.sh hH hS2 (by omega) (by omega) h88
      have s12 := hK.sh hH hS (by omega) (by omega) h88
      refine (show Pv _ _ 146 [some (.ref 0), some (.int 1), some (.int a)] [] G Q from ?_)
      refine Pv.aload rfl rfl ?_
      refine Pv.getR (v := .ref 12) rfl rfl (GW.at (a := 0) (k := 4) (b := 12) hG2 (by decide)) ?_
      refine Pv.aload rfl rfl ?_
      refine Pv.getR (v := .ref 20) rfl rfl (GW.at (a := 0) (k := 5) (b := 20) hG2 (by decide)) ?_
      refine Pv.callV (as := [.ref 12, .ref 20]) (rest := []) rfl rfl rfl (f_shCopy s12.o s20 hm (Or.inl (by omega))) ?_
      rintro _ G2 ⟨rfl, x1, s3⟩
      have hG3 := GW.fx hG2 x1
      refine (show Pv _ _ 157 [some (.ref 0), some (.int 1), some (.int a)] [] G2 Q from ?_)
      refine Pv.iload rfl rfl ?_
      exact Pv.ret rfl (by rw [hQ]; exact ⟨rfl, hK.wide.fx x1 (fun q _ c => c), HK.t (hH2.fx x1 (fun q c => by omega)) (decide_eq_true (by omega)), s3⟩)
set_option maxRecDepth 100000 in
set_option maxHeartbeats 4000000 in
theorem o_lg121z {F : FW} {a : Int32} (N : Nat) : Pv (ab_T (L_X10_log Z_X8_moveInto Z_X4_readText Z_X6_copyFrom Z_X10_judgeLog Z_X6_hungerInAll Z_X2_keep)) N 121 [some (.ref 0), some (.int 0), some (.int a)] [] F (fun r F' => r = some (.int a) ∧ F' = F) := by
  obtain ⟨Q, hQ⟩ : ∃ Q : Option Value → FW → Prop, Q = (fun r F' => r = some (.int a) ∧ F' = F) := ⟨_, rfl⟩
  rw [← hQ]
  refine (show Pv (ab_T (L_X10_log Z_X8_moveInto Z_X4_readText Z_X6_copyFrom Z_X10_judgeLog Z_X6_hungerInAll Z_X2_keep)) N 121 [some (.ref 0), some (.int 0), some (.int a)] [] F Q from ?_)
  refine Pv.iload rfl rfl ?_
  refine Pv.lit rfl ?_
  refine Pv.icmp rfl (fun c1 => ?_) (fun c1 => ?_)
  · skip
    replace c1 : decide ((0 : Int32) = 1) = false := by simpa using c1
    replace c1 := mt (i_eq (a := 0) (b := 1) (by omega) (by omega)).mpr (of_decide_eq_false c1)
    refine Pv.iload rfl rfl ?_
    exact Pv.ret rfl (by rw [hQ]; exact ⟨rfl, rfl⟩)
  · skip
    replace c1 : decide ((0 : Int32) = 1) = true := by simpa using c1
    replace c1 := (i_eq (a := 0) (b := 1) (by omega) (by omega)).mp (of_decide_eq_true c1)
    omega
end
-- 63.b97b.lg.lean.txt
section
theorem o_lg121 {F : FW} {m n kk : Nat} {S S2 : Sh} {H : Nat → Sh} {a l : Int32} (hG : GW F) (hm : m ≤ 8) (hS : SHR F 12 m S) (hS2 : SHR F 20 m S2) (hH : HST F m n H) (h88 : 88 ≤ F.2.2.2.1) (h44 : F.1 44 1 = Int32.ofNat kk) (hkk : kk ≤ 40) (hz : kk = 0 → S2 = S) (hl : l = 0 ∨ l = 1) (N : Nat) : Pv (ab_T (L_X10_log Z_X8_moveInto Z_X4_readText Z_X6_copyFrom Z_X10_judgeLog Z_X6_hungerInAll Z_X2_keep)) N 121 [some (.ref 0), some (.int l), some (.int a)] [] F (fun r F' => r = some (.int a) ∧ KF (fun q => 12 ≤ q ∧ q ≤ 19) F F' ∧ HK (decide (l = 1) && decide (0 < kk)) F' m n H S ∧ SHR F' 12 m (if l = 1 then S2 else S)) := by
  rcases hl with rfl | rfl
  · refine Pv.imp (o_lg121z N) ?_
    rintro r F' ⟨e, rfl⟩
    refine ⟨e, KF.rf, HK.f hH ?_, ?_⟩
    · rw [decide_eq_false (show ¬ (0 : Int32) = 1 by decide)]
      rfl
    · rw [if_neg (show ¬ (0 : Int32) = 1 by decide)]
      exact hS
  · refine Pv.imp (o_lg121y hG hm hS hS2 hH h88 h44 hkk hz N) ?_
    rintro r F' ⟨e, k1, k2, k3⟩
    refine ⟨e, k1, ?_, ?_⟩
    · rw [decide_eq_true (show (1 : Int32) = 1 from rfl), Bool.true_and]
      exact k2
    · rw [if_pos rfl]
      exact k3
theorem lcp_b {q : Nat} (c : (20 ≤ q ∧ q ≤ 27) ∨ (7 ≤ q ∧ q ≤ 9) ∨ q = 44) : LCP q := by
  unfold LCP
  omega
theorem lcp_s {q : Nat} (c : 12 ≤ q ∧ q ≤ 19) : LCP q := by
  unfold LCP
  omega
theorem lcp_r {q : Nat} (c : q = 0 ∨ q = 3 ∨ (36 ≤ q ∧ q ≤ 39)) : LCP q := by
  unfold LCP
  omega
end
-- 63.b97c.lean.txt
section
set_option maxRecDepth 100000 in
set_option maxHeartbeats 4000000 in
theorem o_lg71 {F : FW} {t n nl j : Nat} {L : LN} {T : St} {S : Sh} {K : Nat → TT} {nm : Nat → Int} {H : Nat → Sh} {l : Int32} (hG : GW F) (ht : F.2.1 0 13 = .ref t) (hT : TR F t T) (j0 : t = 45 ∨ t = 53) (hS : SHR F 12 (t_m T) S) (hO : O7 F 20) (hH : HST F (t_m T) n H) (h88 : 88 ≤ F.2.2.2.1) (hl : l = 0 ∨ l = 1) (hA : LGA K nm (t_g T) (t_m T) nl L 0 j) (h36 : F.1 36 3 = Int32.ofNat nl) (hnl : nl ≤ 40) (hL : LNS F L nl) (N : Nat) : Pv (ab_T (L_X10_log Z_X8_moveInto Z_X4_readText Z_X6_copyFrom Z_X10_judgeLog Z_X6_hungerInAll Z_X2_keep)) N 71 [some (.ref 0), some (.int l), none] [] F (fun r F' => r = some (.int (oN (m_fst (jP T L S) nl))) ∧ KF LCP F F' ∧ (∀ k, F'.1 0 k = F.1 0 k) ∧ HK (decide (l = 1) && decide (0 < jn nl (m_fst (jP T L S) nl))) F' (t_m T) n H S ∧ SHR F' 12 (t_m T) (if l = 1 then (jr T L S (jn nl (m_fst (jP T L S) nl))) else S) ∧ LCF F' (jc T L S (m_fst (jP T L S) nl)) (jn nl (m_fst (jP T L S) nl)) S (jr T L S (jn nl (m_fst (jP T L S) nl)))) := by
  obtain ⟨Q, hQ⟩ : ∃ Q : Option Value → FW → Prop, Q = (fun r F' => r = some (.int (oN (m_fst (jP T L S) nl))) ∧ KF LCP F F' ∧ (∀ k, F'.1 0 k = F.1 0 k) ∧ HK (decide (l = 1) && decide (0 < jn nl (m_fst (jP T L S) nl))) F' (t_m T) n H S ∧ SHR F' 12 (t_m T) (if l = 1 then (jr T L S (jn nl (m_fst (jP T L S) nl))) else S) ∧ LCF F' (jc T L S (m_fst (jP T L S) nl)) (jn nl (m_fst (jP T L S) nl)) S (jr T L S (jn nl (m_fst (jP T L S) nl)))) := ⟨_, rfl⟩
  rw [← hQ]
  refine (show Pv (ab_T (L_X10_log Z_X8_moveInto Z_X4_readText Z_X6_copyFrom Z_X10_judgeLog Z_X6_hungerInAll Z_X2_keep)) N 71 [some (.ref 0), some (.int l), none] [] F Q from ?_)
  refine Pv.aload rfl rfl ?_
  refine Pv.getR (v := .ref 20) rfl rfl (GW.at (a := 0) (k := 5) (b := 20) hG (by decide)) ?_
  refine Pv.aload rfl rfl ?_
  refine Pv.getR (v := .ref 12) rfl rfl (GW.at (a := 0) (k := 4) (b := 12) hG (by decide)) ?_
  refine Pv.callV (as := [.ref 20, .ref 12]) (rest := []) rfl rfl rfl (f_shCopy hO hS hT.mb (Or.inr (by omega))) ?_
  rintro _ G ⟨rfl, x1, s20⟩
  have hG2 := GW.fx hG x1
  have hT2 := hT.fx x1 (fun q h1 h2 (c : 20 ≤ q ∧ q ≤ 27) => by omega)
  have s12 := hS.fx x1 (fun q h1 h2 (c : 20 ≤ q ∧ q ≤ 27) => by omega)
  refine (show Pv _ _ 82 [some (.ref 0), some (.int l), none] [] G Q from ?_)
  refine Pv.aload rfl rfl ?_
  refine Pv.callV (as := [.ref 0]) (rest := []) rfl rfl rfl (o_judgeLog hG2 ((congrArg (fun z => z 0 13) x1.2.2.1).trans ht) hT2 s20 j0 ((x1.1 36 3 (by decide)).trans h36) hnl (hL.e (fun a k c1 c2 => x1.1 a k (by omega))) (hA.ok hT.gb)) ?_
  rintro _ G2 ⟨rfl, y1, y2, y3, y4, y5⟩
  have hG3 := GW.fx hG2 y1
  have xB : FX (fun q => (20 ≤ q ∧ q ≤ 27) ∨ (7 ≤ q ∧ q ≤ 9) ∨ q = 44) F G2 := (x1.wd (fun q c => Or.inl c)).tr (y1.wd (fun q c => c))
  have s12b := hS.fx xB (fun q h1 h2 (c : (20 ≤ q ∧ q ≤ 27) ∨ (7 ≤ q ∧ q ≤ 9) ∨ q = 44) => by omega)
  refine (show Pv _ _ 86 [some (.ref 0), some (.int l), none] [.int (oN (m_fst (jP T L S) nl))] G2 Q from ?_)
  refine Pv.istore (lo' := [some (.ref 0), some (.int l), some (.int (oN (m_fst (jP T L S) nl)))]) rfl rfl ?_
  refine Pv.aload rfl rfl ?_
  refine Pv.getR (v := .ref 44) rfl rfl (GW.at (a := 0) (k := 12) (b := 44) hG3 (by decide)) ?_
  refine Pv.lit rfl ?_
  refine Pv.aload rfl rfl ?_
  refine Pv.getR (v := .ref 20) rfl rfl (GW.at (a := 0) (k := 5) (b := 20) hG3 (by decide)) ?_
  refine Pv.getI (z := Int32.ofNat (h_d (jr T L S (jn nl (m_fst (jP T L S) nl))))) rfl rfl (y2.d) ?_
  refine Pv.astk (k := 2) (z := Int32.ofNat (h_d (jr T L S (jn nl (m_fst (jP T L S) nl))))) rfl (rfl) (rfl) ?_
  refine Pv.aload rfl rfl ?_
  refine Pv.getR (v := .ref 44) rfl rfl (GW.at (a := 0) (k := 12) (b := 44) hG3 (by decide)) ?_
  refine Pv.lit rfl ?_
  refine Pv.aload rfl rfl ?_
  refine Pv.getR (v := .ref 20) rfl rfl (GW.at (a := 0) (k := 5) (b := 20) hG3 (by decide)) ?_
  refine Pv.callVI (as := [.ref 20]) (rest := [.int 3, .ref 44]) (z := m_sum (h_u (jr T L S (jn nl (m_fst (jP T L S) nl)))) 12) rfl rfl rfl (f_hungerInAll (SHR.fx (P := fun q => q = 44) y2 (FX.rf.fp rfl) (fun q h1 h2 (c : q = 44) => by omega))) ?_
  refine Pv.aload rfl rfl ?_
  refine Pv.getR (v := .ref 12) rfl rfl (GW.at (a := 0) (k := 4) (b := 12) hG3 (by decide)) ?_
  refine Pv.callVI (as := [.ref 12]) (rest := [.int (m_sum (h_u (jr T L S (jn nl (m_fst (jP T L S) nl)))) 12), .int 3, .ref 44]) (z := m_sum (h_u S) 12) rfl rfl rfl (f_hungerInAll (SHR.fx (P := fun q => q = 44) s12b (FX.rf.fp rfl) (fun q h1 h2 (c : q = 44) => by omega))) ?_
  refine Pv.bin (z := (m_sum (h_u (jr T L S (jn nl (m_fst (jP T L S) nl)))) 12) - (m_sum (h_u S) 12)) rfl (rfl) ?_
  refine Pv.astk (k := 3) (z := (m_sum (h_u (jr T L S (jn nl (m_fst (jP T L S) nl)))) 12) - (m_sum (h_u S) 12)) rfl (rfl) (rfl) ?_
  have x44 : FX (fun q => q = 44) G2 (fp (fp G2 44 2 (Int32.ofNat (h_d (jr T L S (jn nl (m_fst (jP T L S) nl)))))) 44 3 ((m_sum (h_u (jr T L S (jn nl (m_fst (jP T L S) nl)))) 12) - (m_sum (h_u S) 12))) := FX.fp (P := fun q => q = 44) (FX.fp (P := fun q => q = 44) FX.rf rfl) rfl
  have xC : FX (fun q => (20 ≤ q ∧ q ≤ 27) ∨ (7 ≤ q ∧ q ≤ 9) ∨ q = 44) F (fp (fp G2 44 2 (Int32.ofNat (h_d (jr T L S (jn nl (m_fst (jP T L S) nl)))))) 44 3 ((m_sum (h_u (jr T L S (jn nl (m_fst (jP T L S) nl)))) 12) - (m_sum (h_u S) 12))) := xB.tr (x44.wd (fun q c => Or.inr (Or.inr c)))
  have f1 : LCF (fp (fp G2 44 2 (Int32.ofNat (h_d (jr T L S (jn nl (m_fst (jP T L S) nl)))))) 44 3 ((m_sum (h_u (jr T L S (jn nl (m_fst (jP T L S) nl)))) 12) - (m_sum (h_u S) 12))) (jc T L S (m_fst (jP T L S) nl)) (jn nl (m_fst (jP T L S) nl)) S (jr T L S (jn nl (m_fst (jP T L S) nl))) := ⟨((fp_ne (Or.inr (by decide))).trans (fp_ne (Or.inr (by decide)))).trans y3, ((fp_ne (Or.inr (by decide))).trans (fp_ne (Or.inr (by decide)))).trans y4, (fp_ne (Or.inr (by decide))).trans (fp_eq), fp_eq⟩
  have s20c := SHR.fx (P := fun q => q = 44) y2 x44 (fun q h1 h2 (c : q = 44) => by omega)
  have s12c := SHR.fx (P := fun q => q = 44) s12b x44 (fun q h1 h2 (c : q = 44) => by omega)
  have hH3 := hH.fx xC (fun q (c : (20 ≤ q ∧ q ≤ 27) ∨ (7 ≤ q ∧ q ≤ 9) ∨ q = 44) => by omega)
  have h883 : 88 ≤ ((fp (fp G2 44 2 (Int32.ofNat (h_d (jr T L S (jn nl (m_fst (jP T L S) nl)))))) 44 3 ((m_sum (h_u (jr T L S (jn nl (m_fst (jP T L S) nl)))) 12) - (m_sum (h_u S) 12)))).2.2.2.1 := by rw [xC.2.2.2]; exact h88
  refine Pv.imp (o_lg121 (GW.fx hG3 x44) hT.mb s12c s20c hH3 h883 f1.2.1 (Nat.le_trans jn_le hnl) (fun e => by rw [e]; rfl) hl _) ?_
  rintro r F' ⟨e, k1, k2, k3⟩
  rw [hQ]
  exact ⟨e, (KF.rf.fx (R := fun q => (20 ≤ q ∧ q ≤ 27) ∨ (7 ≤ q ∧ q ≤ 9) ∨ q = 44) xC (fun q _ c => lcp_b c)).tr (k1.wd (fun q c => lcp_s c)), fun k => ((k1.2.2.1 0 (by omega) (by omega) (by omega) (hH3.ns (by omega))).1 k (by omega)).trans (xC.1 0 k (by decide)), k2, k3, f1.of (fun k => (k1.2.2.1 44 (by omega) (by omega) (by omega) (hH3.ns (by omega))).1 k (by omega))⟩
end
-- 63.b97d.lean.txt
section
set_option maxRecDepth 100000 in
set_option maxHeartbeats 4000000 in
theorem o_lg27 {F : FW} {t n tm : Nat} {T : St} {S : Sh} {K : Nat → TT} {nm : Nat → Int} {H : Nat → Sh} {l : Int32} (hG : GW F) (ht : F.2.1 0 13 = .ref t) (hT : TR F t T) (j0 : t = 45 ∨ t = 53) (hS : SHR F 12 (t_m T) S) (hO : O7 F 20) (hH : HST F (t_m T) n H) (h88 : 88 ≤ F.2.2.2.1) (hl : l = 0 ∨ l = 1) (hN : NMC F t T nm) (hK : TKF F K tm) (h4 : F.1 3 4 = Int32.ofNat 0) (h9 : F.1 3 9 = 0) (N : Nat) : Pv (ab_T (L_X10_log Z_X8_moveInto Z_X4_readText Z_X6_copyFrom Z_X10_judgeLog Z_X6_hungerInAll Z_X2_keep)) N 27 [some (.ref 0), some (.int l), none] [] F (fun r F' => LCW F F' K T S nm n H l r) := by
  obtain ⟨Q, hQ⟩ : ∃ Q : Option Value → FW → Prop, Q = (fun r F' => LCW F F' K T S nm n H l r) := ⟨_, rfl⟩
  rw [← hQ]
  refine (show Pv (ab_T (L_X10_log Z_X8_moveInto Z_X4_readText Z_X6_copyFrom Z_X10_judgeLog Z_X6_hungerInAll Z_X2_keep)) N 27 [some (.ref 0), some (.int l), none] [] F Q from ?_)
  refine Pv.aload rfl rfl ?_
  refine Pv.getR (v := .ref 36) rfl rfl (GW.at (a := 0) (k := 7) (b := 36) hG (by decide)) ?_
  refine Pv.aload rfl rfl ?_
  refine Pv.getR (v := .ref 3) rfl rfl (GW.at (a := 0) (k := 1) (b := 3) hG (by decide)) ?_
  refine Pv.aload rfl rfl ?_
  refine Pv.getR (v := .ref t) rfl rfl (ht) ?_
  refine Pv.callV (as := [.ref 36, .ref 3, .ref t]) (rest := []) rfl rfl rfl (c_readText hG hK h4 h9 hT hN (by omega)) ?_
  rintro _ G ⟨rfl, ⟨x1, x36⟩, nl, L, c, j, hA, hc0, hn40, h9c, hcu⟩
  have hG2 := GW.fx hG x1
  refine (show Pv _ _ 42 [some (.ref 0), some (.int l), none] [] G Q from ?_)
  refine Pv.aload rfl rfl ?_
  refine Pv.aload rfl rfl ?_
  refine Pv.getR (v := .ref 3) rfl rfl (GW.at (a := 0) (k := 1) (b := 3) hG2 (by decide)) ?_
  refine Pv.getI (z := c) rfl rfl (h9c) ?_
  refine Pv.putI rfl rfl ?_
  refine Pv.aload rfl rfl ?_
  refine Pv.getI (z := c) rfl rfl (fp_eq) ?_
  refine Pv.if0 rfl (fun c1 => ?_) (fun c1 => ?_)
  · skip
    replace c1 := of_decide_eq_true c1
    have e0 : c = 0 := c1
    obtain ⟨h36, hL⟩ := hc0 e0
    have hA0 : LGA K nm (t_g T) (t_m T) nl L 0 j := by rw [← e0]; exact hA
    have xC : FX (fun q => q = 0 ∨ q = 3 ∨ (36 ≤ q ∧ q ≤ 39)) F (fp G 0 18 c) := (x1.wd (fun q c => Or.inr c)).fp (Or.inl rfl)
    have ht3 : ((fp G 0 18 c)).2.1 0 13 = .ref t := (congrArg (fun z => z 0 13) xC.2.2.1).trans ht
    refine Pv.imp (o_lg71 (GW.fx hG xC) ht3 (hT.fx xC (fun q h1 h2 (c : q = 0 ∨ q = 3 ∨ (36 ≤ q ∧ q ≤ 39)) => by omega)) j0 (hS.fx xC (fun q h1 h2 (c : q = 0 ∨ q = 3 ∨ (36 ≤ q ∧ q ≤ 39)) => by omega)) (xC.O7 hO) (hH.fx xC (fun q (c : q = 0 ∨ q = 3 ∨ (36 ≤ q ∧ q ≤ 39)) => by omega)) (by rw [xC.2.2.2]; exact h88) hl hA0 ((fp_ne (Or.inl (by decide))).trans h36) hn40 (hL.e (fun a k c1 c2 => fp_ne (Or.inl (by omega)))) _) ?_
    rintro r F' ⟨e, k1, k2, k3, k4, k5⟩
    rw [hQ]
    exact ⟨(KF.rf.fx xC (fun q _ c => lcp_r c)).tr k1, fun k hk => (k2 k).trans ((fp_ne (Or.inr hk)).trans (x1.1 0 k (by decide))), Or.inl ⟨nl, L, j, hA0, e, (k2 18).trans (fp_eq.trans e0), k3, k4, k5⟩⟩
  · skip
    replace c1 := of_decide_eq_false c1
    refine Pv.lit rfl ?_
    refine Pv.aload rfl rfl ?_
    refine Pv.getR (v := .ref 3) rfl rfl (GW.at (a := 0) (k := 1) (b := 3) hG2 (by decide)) ?_
    refine Pv.getI (z := G.1 3 6) rfl rfl (fp_ne (Or.inl (by decide))) ?_
    refine Pv.bin (z := (-2) - (G.1 3 6)) rfl (rfl) ?_
    have xC : FX (fun q => q = 0 ∨ q = 3 ∨ (36 ≤ q ∧ q ≤ 39)) F (fp G 0 18 c) := (x1.wd (fun q c => Or.inr c)).fp (Or.inl rfl)
    exact Pv.ret rfl (by rw [hQ]; exact ⟨KF.rf.fx xC (fun q _ c => lcp_r c), fun k hk => (fp_ne (Or.inr hk)).trans (x1.1 0 k (by decide)), Or.inr ⟨_, rfl, hH.fx xC (fun q (c : q = 0 ∨ q = 3 ∨ (36 ≤ q ∧ q ≤ 39)) => by omega), hS.fx xC (fun q h1 h2 (c : q = 0 ∨ q = 3 ∨ (36 ≤ q ∧ q ≤ 39)) => by omega), fun k => xC.1 44 k (by decide), nl, L, c, j, hA, c1, fp_eq, hcu.2.1⟩⟩)
end
-- 63.b98.lg.lean.txt
section
theorem HST.frz {P : Nat → Prop} {F G : FW} {m n : Nat} {H : Nat → Sh} (h : HST F m n H) (x : FRZ P F G) (c : ∀ a, P a → a < 88 ∧ a ≠ 10 ∧ a ≠ 11) (h88 : 88 ≤ F.2.2.2.1) : HST G m n H := by
  obtain ⟨k, s, hW, h1, h2, h3⟩ := h
  have np : ∀ a, 88 ≤ a → ¬ P a := fun a ha q => by
    have := (c a q).1
    omega
  have r11 := (x.2 11 (by omega) (fun q => (c 11 q).2.2 rfl)).2.1
  refine ⟨k, s, ⟨hW.1, fun j hj => ?_, fun j a b => (r11 j).trans (hW.2.2.1 j a b), hW.2.2.2⟩, h1, ((x.2 10 (by omega) (fun q => (c 10 q).2.1 rfl)).1 1).trans h2, fun j hj => ?_⟩
  · obtain ⟨b1, b2, b3, b4⟩ := hW.2.1 j hj
    exact ⟨(r11 j).trans b1, fun i hi => ((x.2 (s j) (by omega) (np _ b3)).2.1 i).trans (b2 i hi), b3, Nat.le_trans b4 x.1⟩
  · have b := hW.2.1 j (by omega)
    exact (h3 j hj).frz x (by omega) (fun a c1 c2 => np a (by omega))
theorem mvp_n {a : Nat} (h : 7 ≤ a) : ¬ MVP a := by
  intro c
  have c' : a = 1 ∨ a = 3 ∨ a = 4 ∨ a = 5 ∨ a = 6 := c
  omega
theorem mvp_l {a : Nat} (c : MVP a) : a < 88 ∧ a ≠ 10 ∧ a ≠ 11 := by
  have c' : a = 1 ∨ a = 3 ∨ a = 4 ∨ a = 5 ∨ a = 6 := c
  omega
set_option maxRecDepth 100000 in
set_option maxHeartbeats 4000000 in
theorem o_log {tt : Nat → Nat} {hp : ab_H} {t tn n : Nat} {T : St} {S : Sh} {nm : Nat → Int} {H : Nat → Sh} {l : Int32} (Hs : sf_h tt hp) (hce : sf_cE kq_X8_moveInto_v Z_X8_moveInto ke_X8_moveInto_v) (hn : sf_rd hp 1 1 = some (tn : Int)) (hG : GW (fl hp)) (ht : (fl hp).2.1 0 13 = .ref t) (hT : TR (fl hp) t T) (j0 : t = 45 ∨ t = 53) (hS : SHR (fl hp) 12 (t_m T) S) (hO : O7 (fl hp) 20) (hH : HST (fl hp) (t_m T) n H) (h88 : 88 ≤ (fl hp).2.2.2.1) (hN : NMC (fl hp) t T nm) : Pj Z_X10_log [.ref 0, .int l] hp (fun r F' => (¬ (l = 0 ∨ l = 1) ∧ r = some (.int (-1000)) ∧ F' = fl hp) ∨ ((l = 0 ∨ l = 1) ∧ ∃ F1, MVQ (fl hp) F1 (bv hp 2 tn) tn 400 ∧ LCW F1 F' (tok (bv hp 2 tn) tn 400) T S nm n H l r)) := by
  have hw := wt_of Hs
  refine Pj.of fun N => ?_
  obtain ⟨Q, hQ⟩ : ∃ Q : Option Value → FW → Prop, Q = (fun r F' => (¬ (l = 0 ∨ l = 1) ∧ r = some (.int (-1000)) ∧ F' = fl hp) ∨ ((l = 0 ∨ l = 1) ∧ ∃ F1, MVQ (fl hp) F1 (bv hp 2 tn) tn 400 ∧ LCW F1 F' (tok (bv hp 2 tn) tn 400) T S nm n H l r)) := ⟨_, rfl⟩
  rw [← hQ]
  have go : (l = 0 ∨ l = 1) → Pw (ab_T (L_X10_log Z_X8_moveInto Z_X4_readText Z_X6_copyFrom Z_X10_judgeLog Z_X6_hungerInAll Z_X2_keep)) N 13 [some (.ref 0), some (.int l), none] [] hp Q := fun hl => by
    refine Pw.aload rfl rfl ?_
    refine Pw.getR (v := .ref 1) hw rfl rfl (GW.at (a := 0) (k := 0) (b := 1) hG (by decide)) ?_
    refine Pw.aload rfl rfl ?_
    refine Pw.getR (v := .ref 3) hw rfl rfl (GW.at (a := 0) (k := 1) (b := 3) hG (by decide)) ?_
    refine Pw.lit rfl ?_
    refine Pw.callV (as := [.ref 1, .ref 3, .int (Int32.ofNat 400)]) (rest := []) rfl rfl rfl (fun o e => ?_)
    obtain ⟨w, r0, q⟩ := mv_flat (x := 400) Hs (by omega) hce hG h88 hn o e
    rw [r0]
    refine Pw.v w ?_
    refine (show Pv (ab_T (L_X10_log Z_X8_moveInto Z_X4_readText Z_X6_copyFrom Z_X10_judgeLog Z_X6_hungerInAll Z_X2_keep)) N 27 [some (.ref 0), some (.int l), none] [] (fl o.2) Q from ?_)
    have q' := q
    obtain ⟨z, g1, h4, h9, -, m, tk⟩ := q
    refine Pv.imp (o_lg27 g1 (((z.2 0 (by omega) (by decide)).2.1 13).trans ht) (hT.frz z (by omega) (fun a c1 c2 => mvp_n (by omega))) j0 (hS.frz z (by omega) (fun a c1 c2 => mvp_n (by omega))) (fun i hi => ((z.2 20 (by omega) (by decide)).2.1 i).trans (hO i hi)) (hH.frz z (fun a c => mvp_l c) h88) (Nat.le_trans h88 z.1) hl (hN.frz z (by omega) (mvp_n (by omega)) (mvp_n (by omega))) tk h4 h9 N) ?_
    rintro r F' x
    rw [hQ]
    exact Or.inr ⟨hl, fl o.2, q', x⟩
  refine (show Pw (ab_T (L_X10_log Z_X8_moveInto Z_X4_readText Z_X6_copyFrom Z_X10_judgeLog Z_X6_hungerInAll Z_X2_keep)) N 0 [some (.ref 0), some (.int l), none] [] hp Q from ?_)
  refine Pw.iload rfl rfl ?_
  refine Pw.if0 rfl (fun c1 => ?_) (fun c1 => ?_)
  · exact go (Or.inl (of_decide_eq_true c1))
  · refine Pw.iload rfl rfl ?_
    refine Pw.lit rfl ?_
    refine Pw.icmp rfl (fun c2 => ?_) (fun c2 => ?_)
    · exact go (Or.inr (of_decide_eq_true c2))
    · refine Pw.v hw ?_
      refine Pv.lit rfl ?_
      exact Pv.ret rfl (by rw [hQ]; exact Or.inl ⟨fun c => c.elim (of_decide_eq_false c1) (of_decide_eq_false c2), rfl, rfl⟩)
end
-- 63.b99.st.lean.txt
section
/-! ===== the reference reads a Strait ===== -/
def PSB (s : PS) : Prop := 0 ≤ s.h 0 ∧ s.h 0 ≤ 6 ∧ 0 ≤ s.h 1 ∧ s.h 1 ≤ 8 ∧ 0 ≤ s.h 3 ∧ s.h 3 ≤ 20
/-- what is being read, as it lies at 72, 74, 76 -/
def SRF (F : FW) (s : PS) : Prop := (∀ i, i < 120 → (F.1 72 i).toInt = s.h i) ∧ F.1 69 20 = (if s.ld = true then 1 else 0) ∧ (∀ w, w < 4 → ∀ k, k < 12 → xbit (F.1 76 w) k = s.tl (12 * w + k)) ∧ (∀ g : Nat, (g : Int) < s.h 0 → (F.2.2.1 74 (14 + g)).toInt = s.nm g) ∧ (∀ g : Nat, (g : Int) < s.h 1 → (F.2.2.1 74 (20 + g)).toInt = s.nm (6 + g)) ∧ PSB s
theorem SRF.h {F : FW} {s : PS} (h : SRF F s) {i : Nat} (hi : i < 120) : (F.1 72 i).toInt = s.h i := h.1 i hi
theorem SRF.ld {F : FW} {s : PS} (h : SRF F s) : F.1 69 20 = (if s.ld = true then 1 else 0) := h.2.1
theorem SRF.tl {F : FW} {s : PS} (h : SRF F s) {w k : Nat} (hw : w < 4) (hk : k < 12) : xbit (F.1 76 w) k = s.tl (12 * w + k) := h.2.2.1 w hw k hk
theorem SRF.b {F : FW} {s : PS} (h : SRF F s) : PSB s := h.2.2.2.2.2
theorem SRF.at {F : FW} {s : PS} (h : SRF F s) {i k : Nat} (hi : i < 120) (e : s.h i = (k : Int)) : F.1 72 i = Int32.ofNat k := by
  have := i_ofv (h.h hi) (by omega)
  rw [this, e]
  rfl
def sn (s : PS) : Nat → Int := fun x => s.nm (x - 14)
theorem SRF.g {F : FW} {s : PS} (h : SRF F s) {g : Nat} (hg : s.h 0 = (g : Int)) : ∀ j, j < g → (F.2.2.1 74 (14 + j)).toInt = sn s (14 + j) := fun j hj => (h.2.2.2.1 j (by omega)).trans (by
  show s.nm j = s.nm (14 + j - 14)
  rw [show 14 + j - 14 = j by omega])
theorem SRF.m {F : FW} {s : PS} (h : SRF F s) {m : Nat} (hm : s.h 1 = (m : Int)) : ∀ j, j < m → (F.2.2.1 74 (20 + j)).toInt = sn s (20 + j) := fun j hj => (h.2.2.2.2.1 j (by omega)).trans (by
  show s.nm (6 + j) = s.nm (20 + j - 14)
  rw [show 20 + j - 14 = 6 + j by omega])
theorem sn_g {s : PS} {v : Int} : fP (sn s) 14 v = fP s.nm 0 v := funext fun g => by
  show decide (s.nm (14 + g - 14) = v) = decide (s.nm (0 + g) = v)
  rw [show 14 + g - 14 = 0 + g by omega]
theorem sn_m {s : PS} {v : Int} : fP (sn s) 20 v = fP s.nm 6 v := funext fun g => by
  show decide (s.nm (20 + g - 14) = v) = decide (s.nm (6 + g) = v)
  rw [show 20 + g - 14 = 6 + g by omega]
theorem fndf_oN {nm : Nat → Int} {o : Nat} {v : Int} : ∀ {f k : Nat}, m_fst (fP nm o v) k = none → k + f ≤ 1000 → (oN (m_fst (fP nm o v) (k + f))).toInt = fndf nm o v f k
  | 0, k, h, _ => by
    rw [Nat.add_zero, h]
    rfl
  | f + 1, k, h, hb => by
    show _ = (if nm (o + k) = v then (k : Int) else fndf nm o v f (k + 1))
    by_cases c : nm (o + k) = v
    · rw [if_pos c, m_fst_e h (show fP nm o v k = true from decide_eq_true c) (show k < k + (f + 1) by omega)]
      exact i_toInt (by omega)
    · rw [if_neg c, show k + (f + 1) = k + 1 + f by omega]
      exact fndf_oN (m_fst_n h (show fP nm o v k = false from decide_eq_false c)) (by omega)
theorem fnd_oN {nm : Nat → Int} {o q : Nat} {v : Int} (hq : q ≤ 20) : (oN (m_fst (fP nm o v) q)).toInt = fnd nm o (q : Int) v := by
  have h := fndf_oN (nm := nm) (o := o) (v := v) (f := q) (k := 0) rfl (by omega)
  rw [Nat.zero_add] at h
  rw [h]
  show _ = fndf nm o v ((q : Int)).toNat 0
  rw [show ((q : Int)).toNat = q by omega]
/-- a new name: 1 none, 3 not new -/
def fsc (s : PS) (X : TT) : Int32 := if X.k = 2 then (if 0 ≤ fnd s.nm 0 (s.h 0) X.v ∨ 0 ≤ fnd s.nm 6 (s.h 1) X.v then 3 else 0) else 1
theorem lnew_y {T : Nat → TT} {s : PS} {j : Nat} {k : Int → LR} (h : fsc s (T j) = 0) : lnew T s j k = k (T j).v := by
  unfold fsc at h
  unfold lnew
  by_cases c : (T j).k = 2
  · rw [if_pos c] at h
    by_cases d : 0 ≤ fnd s.nm 0 (s.h 0) (T j).v ∨ 0 ≤ fnd s.nm 6 (s.h 1) (T j).v
    · rw [if_pos d] at h
      exact absurd h (by decide)
    · rw [if_neg (fun e => e c), if_neg d]
  · rw [if_neg c] at h
    exact absurd h (by decide)
theorem lnew_n {T : Nat → TT} {s : PS} {j : Nat} {k : Int → LR} (h : ¬ fsc s (T j) = 0) : lnew T s j k = LR.bad (fsc s (T j)).toInt j := by
  unfold fsc at h ⊢
  unfold lnew
  by_cases c : (T j).k = 2
  · rw [if_pos c] at h
    rw [if_pos c]
    by_cases d : 0 ≤ fnd s.nm 0 (s.h 0) (T j).v ∨ 0 ≤ fnd s.nm 6 (s.h 1) (T j).v
    · rw [if_pos d, if_neg (fun e => e c), if_pos d]
      rfl
    · rw [if_neg d] at h
      exact absurd rfl h
  · rw [if_neg c, if_pos c]
    rfl
theorem lnum_y {T : Nat → TT} {j : Nat} {lo hi : Int} {k : Int → LR} (h : tnN (T j) lo hi = 0) : lnum T j lo hi k = k (T j).v := by
  have := tnN_k h
  unfold lnum
  rw [if_neg (fun e => e this.1), if_neg (by omega)]
theorem lnum_n {T : Nat → TT} {j : Nat} {lo hi : Int} {k : Int → LR} (h : ¬ tnN (T j) lo hi = 0) : lnum T j lo hi k = LR.bad (tnN (T j) lo hi).toInt j := by
  unfold tnN at h ⊢
  unfold lnum
  by_cases c : (T j).k = 3
  · rw [if_pos c] at h
    rw [if_pos c]
    by_cases d : (T j).v < lo ∨ hi < (T j).v
    · rw [if_pos d, if_neg (fun e => e c), if_pos d]
      rfl
    · rw [if_neg d] at h
      exact absurd rfl h
  · rw [if_neg c, if_pos c]
    rfl
theorem fP_f {nm nm' : Nat → Int} {o o' : Nat} {v : Int} (h : fP nm' o' v = fP nm o v) {q : Nat} (hq : q ≤ 20) : (oN (m_fst (fP nm' o' v) q)).toInt = fnd nm o (q : Int) v := by
  rw [h]
  exact fnd_oN hq
theorem lold_y {T : Nat → TT} {s : PS} {nm' : Nat → Int} {o o' q j : Nat} (hf : ∀ v, fP nm' o' v = fP s.nm o v) (hq : q ≤ 8) (h : lkc nm' o' q (T j) = 0) : ∃ w, w < q ∧ m_fst (fP nm' o' (T j).v) q = some w ∧ ∀ k : Int → LR, lold T s o (q : Int) j k = k (w : Int) := by
  obtain ⟨k2, w, hw, hwq⟩ := lkc_y hq h
  have e : fnd s.nm o (q : Int) (T j).v = (w : Int) := by
    rw [← fP_f (hf _) (by omega), hw]
    exact i_toInt (by omega)
  refine ⟨w, hwq, hw, fun k => ?_⟩
  unfold lold
  rw [if_neg (fun z => z k2), if_neg (by omega), e]
theorem lold_n {T : Nat → TT} {s : PS} {nm' : Nat → Int} {o o' q j : Nat} {k : Int → LR} (hf : ∀ v, fP nm' o' v = fP s.nm o v) (hq : q ≤ 8) (h : ¬ lkc nm' o' q (T j) = 0) : lold T s o (q : Int) j k = LR.bad (lkc nm' o' q (T j)).toInt j := by
  unfold lkc at h ⊢
  unfold lold
  by_cases c : (T j).k = 2
  · rw [if_pos c] at h
    rw [if_pos c]
    by_cases d : oN (m_fst (fP nm' o' (T j).v) q) = -1
    · rw [if_pos d, if_neg (fun e => e c), if_pos]
      · rfl
      · rw [← fP_f (hf _) (by omega), d]
        decide
    · rw [if_neg d] at h
      exact absurd rfl h
  · rw [if_neg c, if_pos c]
    rfl
def RSX (F G : FW) : Prop := FX (fun q => q = 69 ∨ q = 72 ∨ q = 74 ∨ q = 76) F G ∧ (∀ k, k ≠ 4 → k ≠ 11 → k ≠ 12 → k ≠ 13 → k ≠ 14 → k ≠ 15 → k ≠ 16 → k ≠ 18 → k ≠ 20 → G.1 69 k = F.1 69 k) ∧ (∀ k, k ≠ 17 → G.2.2.1 69 k = F.2.2.1 69 k) ∧ ∀ k, k < 14 → G.2.2.1 74 k = F.2.2.1 74 k
theorem RSX.rf {F : FW} : RSX F F := ⟨FX.rf, fun _ _ _ _ _ _ _ _ _ _ => rfl, fun _ _ => rfl, fun _ _ => rfl⟩
theorem RSX.tr {F G K : FW} (a : RSX F G) (b : RSX G K) : RSX F K := ⟨a.1.tr b.1, fun k c1 c2 c3 c4 c5 c6 c7 c8 c9 => (b.2.1 k c1 c2 c3 c4 c5 c6 c7 c8 c9).trans (a.2.1 k c1 c2 c3 c4 c5 c6 c7 c8 c9), fun k c => (b.2.2.1 k c).trans (a.2.2.1 k c), fun k c => (b.2.2.2 k c).trans (a.2.2.2 k c)⟩
theorem RSX.of {F G : FW} (h : RLX F G) : RSX F G := ⟨h.1.wd fun _ e => Or.inl e, fun k c1 c2 c3 c4 c5 c6 c7 c8 _ => h.2.1 k c1 c2 c3 c4 c5 c6 c7 c8, h.2.2, fun k _ => h.1.2.1 74 k (by decide)⟩
theorem RSX.lx {F G K : FW} (a : RSX F G) (h : RLX G K) : RSX F K := a.tr (RSX.of h)
theorem RSX.G {F G : FW} (h : RSX F G) (g : GW F) : GW G := g.fx h.1
theorem RSX.W {F G : FW} (h : RSX F G) (r : RWF F) : RWF G := fun j hj => (congrArg Int64.toInt (h.1.2.1 75 j (by decide))).trans (r j hj)
theorem RSX.p72 {F G : FW} {k : Nat} {v : Int32} (h : RSX F G) : RSX F (fp G 72 k v) := ⟨h.1.fp (Or.inr (Or.inl rfl)), fun k c1 c2 c3 c4 c5 c6 c7 c8 c9 => (fp_ne (Or.inl (by decide))).trans (h.2.1 k c1 c2 c3 c4 c5 c6 c7 c8 c9), h.2.2.1, h.2.2.2⟩
theorem RSX.p76 {F G : FW} {k : Nat} {v : Int32} (h : RSX F G) : RSX F (fp G 76 k v) := ⟨h.1.fp (Or.inr (Or.inr (Or.inr rfl))), fun k c1 c2 c3 c4 c5 c6 c7 c8 c9 => (fp_ne (Or.inl (by decide))).trans (h.2.1 k c1 c2 c3 c4 c5 c6 c7 c8 c9), h.2.2.1, h.2.2.2⟩
theorem RSX.p20 {F G : FW} {v : Int32} (h : RSX F G) : RSX F (fp G 69 20 v) := ⟨h.1.fp (Or.inl rfl), fun k c1 c2 c3 c4 c5 c6 c7 c8 c9 => (fp_ne (Or.inr c9)).trans (h.2.1 k c1 c2 c3 c4 c5 c6 c7 c8 c9), h.2.2.1, h.2.2.2⟩
theorem RSX.l74 {F G : FW} {k : Nat} {w : Int64} (h : RSX F G) (hk : 14 ≤ k) : RSX F (fpl G 74 k w) := ⟨h.1.fpl (Or.inr (Or.inr (Or.inl rfl))), h.2.1, fun j c => (fpl_ne (Or.inl (by decide))).trans (h.2.2.1 j c), fun j c => (fpl_ne (Or.inr (by omega))).trans (h.2.2.2 j c)⟩
theorem RTK.oth {F : FW} {B : Nat → Int} {n lim i a k : Nat} {v : Int32} (h : RTK F B n lim i) (c : a = 72 ∨ a = 76 ∨ (a = 69 ∧ (k = 20 ∨ k = 19))) : RTK (fp F a k v) B n lim i := by
  have e : ∀ j, j ≠ 20 → j ≠ 19 → (fp F a k v).1 69 j = F.1 69 j := fun j h1 h2 => fp_ne (by omega)
  have q := h.2.2.2.1
  exact ⟨(e 3 (by decide) (by decide)).trans h.1, (e 5 (by decide) (by decide)).trans h.2.1, (RBF_same fun k => fp_ne (by omega)).trans h.2.2.1, ⟨(congrArg Int32.toInt (e 12 (by decide) (by decide))).trans q.1, (e 4 (by decide) (by decide)).trans q.2.1, (congrArg Int32.toInt (e 11 (by decide) (by decide))).trans q.2.2.1, fun z => (congrArg Int32.toInt (e 14 (by decide) (by decide))).trans (q.2.2.2.1 z), fun z => (congrArg Int32.toInt (e 14 (by decide) (by decide))).trans (q.2.2.2.2.1 z), q.2.2.2.2.2⟩, h.2.2.2.2⟩
theorem RTK.l74 {F : FW} {B : Nat → Int} {n lim i k : Nat} {w : Int64} (h : RTK F B n lim i) : RTK (fpl F 74 k w) B n lim i := by
  have q := h.2.2.2.1
  exact ⟨h.1, h.2.1, h.2.2.1, ⟨q.1, q.2.1, q.2.2.1, q.2.2.2.1, q.2.2.2.2.1, fun z => (congrArg Int64.toInt (fpl_ne (Or.inl (by decide)))).trans (q.2.2.2.2.2 z)⟩, h.2.2.2.2⟩
theorem SRF.sm {F G : FW} {s : PS} (h : SRF F s) (e72 : ∀ k, G.1 72 k = F.1 72 k) (e20 : G.1 69 20 = F.1 69 20) (e76 : ∀ k, G.1 76 k = F.1 76 k) (e74 : ∀ k, G.2.2.1 74 k = F.2.2.1 74 k) : SRF G s :=
  ⟨fun i hi => by rw [e72]; exact h.1 i hi, e20.trans h.2.1, fun w hw k hk => by rw [e76]; exact h.2.2.1 w hw k hk, fun g hg => by rw [e74]; exact h.2.2.2.1 g hg, fun g hg => by rw [e74]; exact h.2.2.2.2.1 g hg, h.b⟩
theorem SRF.lx {F G : FW} {s : PS} (h : SRF F s) (x : RLX F G) : SRF G s := h.sm (fun k => x.1.1 72 k (by decide)) (x.2.1 20 (by decide) (by decide) (by decide) (by decide) (by decide) (by decide) (by decide) (by decide)) (fun k => x.1.1 76 k (by decide)) (fun k => x.1.2.1 74 k (by decide))
theorem SRF.ld1 {F : FW} {s : PS} (h : SRF F s) : SRF (fp F 69 20 1) (s.h, s.nm, true, s.tl) :=
  ⟨fun i hi => (congrArg Int32.toInt (fp_ne (Or.inl (by decide)))).trans (h.1 i hi), fp_eq, fun w hw k hk => (congrArg (fun z => xbit z k) (fp_ne (Or.inl (by decide)))).trans (h.2.2.1 w hw k hk), h.2.2.2.1, h.2.2.2.2.1, h.b⟩
theorem SRF.put {F : FW} {s : PS} {k : Nat} {v : Int32} {a : Int} (h : SRF F s) (hk : k ≠ 0 ∧ k ≠ 1 ∧ k ≠ 3) (hv : v.toInt = a) : SRF (fp F 72 k v) (ups s.h k a, s.2) := by
  have e0 : ups s.h k a 0 = s.h 0 := ups_ne (by omega)
  have e1 : ups s.h k a 1 = s.h 1 := ups_ne (by omega)
  have e3 : ups s.h k a 3 = s.h 3 := ups_ne (by omega)
  refine ⟨fun i hi => ?_, (fp_ne (Or.inl (by decide))).trans h.2.1, fun w hw j hj => (congrArg (fun z => xbit z j) (fp_ne (Or.inl (by decide)))).trans (h.2.2.1 w hw j hj), fun g hg => h.2.2.2.1 g (by rw [← e0]; exact hg), fun g hg => h.2.2.2.2.1 g (by rw [← e1]; exact hg), ?_⟩
  · show _ = ups s.h k a i
    by_cases c : i = k
    · rw [c, ups_eq, fp_eq]
      exact hv
    · rw [ups_ne c, fp_ne (Or.inr c)]
      exact h.1 i hi
  · show 0 ≤ ups s.h k a 0 ∧ ups s.h k a 0 ≤ 6 ∧ 0 ≤ ups s.h k a 1 ∧ ups s.h k a 1 ≤ 8 ∧ 0 ≤ ups s.h k a 3 ∧ ups s.h k a 3 ≤ 20
    rw [e0, e1, e3]
    exact h.b
theorem SRF.fl {F : FW} {s : PS} {g m a : Nat} {w : Int64} (h : SRF F s) (hg : s.h 0 = (g : Int)) (hm : s.h 1 = (m : Int)) (c : (a = 14 + g ∧ g < 6) ∨ a = 20 + m) : SRF (fpl F 74 a w) s := by
  have b := h.b
  unfold PSB at b
  exact ⟨h.1, h.2.1, h.2.2.1, fun j hj => (congrArg Int64.toInt (fpl_ne (Or.inr (by omega)))).trans (h.2.2.2.1 j hj), fun j hj => (congrArg Int64.toInt (fpl_ne (Or.inr (by omega)))).trans (h.2.2.2.2.1 j hj), h.b⟩
theorem SRF.good {F : FW} {s : PS} {g : Nat} {v : Int} (h : SRF F s) (hg : s.h 0 = (g : Int)) (h6 : g < 6) (hn : (F.2.2.1 74 (14 + g)).toInt = v) : SRF (fp F 72 0 (Int32.ofNat (g + 1))) (ups s.h 0 (s.h 0 + 1), ups s.nm (s.h 0).toNat v, s.ld, s.tl) := by
  have e1 : ups s.h 0 (s.h 0 + 1) 1 = s.h 1 := ups_ne (by decide)
  have e3 : ups s.h 0 (s.h 0 + 1) 3 = s.h 3 := ups_ne (by decide)
  have e0 : ups s.h 0 (s.h 0 + 1) 0 = s.h 0 + 1 := ups_eq
  have b := h.b
  unfold PSB at b
  have tg : (s.h 0).toNat = g := by omega
  refine ⟨fun i hi => ?_, (fp_ne (Or.inl (by decide))).trans h.2.1, fun w hw j hj => (congrArg (fun z => xbit z j) (fp_ne (Or.inl (by decide)))).trans (h.2.2.1 w hw j hj), fun j hj => ?_, fun j hj => ?_, ?_⟩
  · show _ = ups s.h 0 (s.h 0 + 1) i
    by_cases c : i = 0
    · rw [c, ups_eq, fp_eq, i_toInt (by omega)]
      omega
    · rw [ups_ne c, fp_ne (Or.inr c)]
      exact h.1 i hi
  · have hj' : (j : Int) < s.h 0 + 1 := by
      have : (j : Int) < ups s.h 0 (s.h 0 + 1) 0 := hj
      rw [e0] at this
      exact this
    show (F.2.2.1 74 (14 + j)).toInt = ups s.nm (s.h 0).toNat v j
    rw [tg]
    by_cases c : j = g
    · rw [c, ups_eq]
      exact hn
    · rw [ups_ne c]
      exact h.2.2.2.1 j (by omega)
  · have hj' : (j : Int) < s.h 1 := by
      have : (j : Int) < ups s.h 0 (s.h 0 + 1) 1 := hj
      rw [e1] at this
      exact this
    show (F.2.2.1 74 (20 + j)).toInt = ups s.nm (s.h 0).toNat v (6 + j)
    rw [ups_ne (by omega)]
    exact h.2.2.2.2.1 j hj'
  · show 0 ≤ ups s.h 0 (s.h 0 + 1) 0 ∧ ups s.h 0 (s.h 0 + 1) 0 ≤ 6 ∧ 0 ≤ ups s.h 0 (s.h 0 + 1) 1 ∧ ups s.h 0 (s.h 0 + 1) 1 ≤ 8 ∧ 0 ≤ ups s.h 0 (s.h 0 + 1) 3 ∧ ups s.h 0 (s.h 0 + 1) 3 ≤ 20
    rw [e0, e1, e3]
    omega
theorem SRF.man {F : FW} {s : PS} {m : Nat} {v : Int} (h : SRF F s) (hm : s.h 1 = (m : Int)) (h8 : m < 8) (hn : (F.2.2.1 74 (20 + m)).toInt = v) : SRF (fp F 72 1 (Int32.ofNat (m + 1))) (ups s.h 1 (s.h 1 + 1), ups s.nm (6 + m) v, s.ld, s.tl) := by
  have e1 : ups s.h 1 (s.h 1 + 1) 1 = s.h 1 + 1 := ups_eq
  have e3 : ups s.h 1 (s.h 1 + 1) 3 = s.h 3 := ups_ne (by decide)
  have e0 : ups s.h 1 (s.h 1 + 1) 0 = s.h 0 := ups_ne (by decide)
  have b := h.b
  unfold PSB at b
  refine ⟨fun i hi => ?_, (fp_ne (Or.inl (by decide))).trans h.2.1, fun w hw j hj => (congrArg (fun z => xbit z j) (fp_ne (Or.inl (by decide)))).trans (h.2.2.1 w hw j hj), fun j hj => ?_, fun j hj => ?_, ?_⟩
  · show _ = ups s.h 1 (s.h 1 + 1) i
    by_cases c : i = 1
    · rw [c, ups_eq, fp_eq, i_toInt (by omega)]
      omega
    · rw [ups_ne c, fp_ne (Or.inr c)]
      exact h.1 i hi
  · have hj' : (j : Int) < s.h 0 := by
      have : (j : Int) < ups s.h 1 (s.h 1 + 1) 0 := hj
      rw [e0] at this
      exact this
    show (F.2.2.1 74 (14 + j)).toInt = ups s.nm (6 + m) v j
    rw [ups_ne (by omega)]
    exact h.2.2.2.1 j hj'
  · have hj' : (j : Int) < s.h 1 + 1 := by
      have : (j : Int) < ups s.h 1 (s.h 1 + 1) 1 := hj
      rw [e1] at this
      exact this
    show (F.2.2.1 74 (20 + j)).toInt = ups s.nm (6 + m) v (6 + j)
    by_cases c : j = m
    · rw [c, ups_eq]
      exact hn
    · rw [ups_ne (by omega)]
      exact h.2.2.2.2.1 j (by omega)
  · show 0 ≤ ups s.h 1 (s.h 1 + 1) 0 ∧ ups s.h 1 (s.h 1 + 1) 0 ≤ 6 ∧ 0 ≤ ups s.h 1 (s.h 1 + 1) 1 ∧ ups s.h 1 (s.h 1 + 1) 1 ≤ 8 ∧ 0 ≤ ups s.h 1 (s.h 1 + 1) 3 ∧ ups s.h 1 (s.h 1 + 1) 3 ≤ 20
    rw [e0, e1, e3]
    omega
theorem SRF.miss {F : FW} {s : PS} {q : Nat} (h : SRF F s) (hq : s.h 3 = (q : Int)) (h20 : q < 20) : SRF (fp F 72 3 (Int32.ofNat (q + 1))) (ups s.h 3 (s.h 3 + 1), s.2) := by
  have e1 : ups s.h 3 (s.h 3 + 1) 1 = s.h 1 := ups_ne (by decide)
  have e3 : ups s.h 3 (s.h 3 + 1) 3 = s.h 3 + 1 := ups_eq
  have e0 : ups s.h 3 (s.h 3 + 1) 0 = s.h 0 := ups_ne (by decide)
  have b := h.b
  unfold PSB at b
  refine ⟨fun i hi => ?_, (fp_ne (Or.inl (by decide))).trans h.2.1, fun w hw j hj => (congrArg (fun z => xbit z j) (fp_ne (Or.inl (by decide)))).trans (h.2.2.1 w hw j hj), fun j hj => h.2.2.2.1 j (by rw [← e0]; exact hj), fun j hj => h.2.2.2.2.1 j (by rw [← e1]; exact hj), ?_⟩
  · show _ = ups s.h 3 (s.h 3 + 1) i
    by_cases c : i = 3
    · rw [c, ups_eq, fp_eq, i_toInt (by omega)]
      omega
    · rw [ups_ne c, fp_ne (Or.inr c)]
      exact h.1 i hi
  · show 0 ≤ ups s.h 3 (s.h 3 + 1) 0 ∧ ups s.h 3 (s.h 3 + 1) 0 ≤ 6 ∧ 0 ≤ ups s.h 3 (s.h 3 + 1) 1 ∧ ups s.h 3 (s.h 3 + 1) 1 ≤ 8 ∧ 0 ≤ ups s.h 3 (s.h 3 + 1) 3 ∧ ups s.h 3 (s.h 3 + 1) 3 ≤ 20
    rw [e0, e1, e3]
    omega
theorem SRF.told {F : FW} {s : PS} {w k : Nat} (h : SRF F s) (hw : w < 4) (hk : k < 12) : SRF (fp F 76 w (F.1 76 w ||| 1 <<< (Int32.ofNat k &&& 31))) (s.h, s.nm, s.ld, ups s.tl (12 * w + k) true) := by
  refine ⟨fun i hi => (congrArg Int32.toInt (fp_ne (Or.inl (by decide)))).trans (h.1 i hi), (fp_ne (Or.inl (by decide))).trans h.2.1, fun w' hw' j hj => ?_, h.2.2.2.1, h.2.2.2.2.1, h.b⟩
  show _ = ups s.tl (12 * w + k) true (12 * w' + j)
  by_cases c : w' = w
  · subst c
    rw [fp_eq, xbit_bt (by omega), bt_or, bt_sh (by omega), ← xbit_bt (by omega), h.tl hw' hj]
    by_cases d : k = j
    · subst d
      rw [ups_eq, decide_eq_true rfl, Bool.or_true]
    · rw [ups_ne (by omega), decide_eq_false d, Bool.or_false]
  · rw [fp_ne (Or.inr c), ups_ne (by omega)]
    exact h.tl hw' hj
end
-- 63.b99a.st.lean.txt
section
theorem fsc_1 {s : PS} {X : TT} (h : ¬ X.k = 2) : fsc s X = 1 := if_neg h
theorem fsc_e {s : PS} {X : TT} {g m : Nat} (hg : s.h 0 = (g : Int)) (hm : s.h 1 = (m : Int)) (bg : g ≤ 6) (bm : m ≤ 8) : (0 ≤ fnd s.nm 0 (s.h 0) X.v ↔ 0 ≤ oN (m_fst (fP (sn s) 14 X.v) g)) ∧ (0 ≤ fnd s.nm 6 (s.h 1) X.v ↔ 0 ≤ oN (m_fst (fP (sn s) 20 X.v) m)) := by
  rw [hg, hm, ← fP_f sn_g (by omega), ← fP_f sn_m (by omega), Int32.le_iff_toInt_le, Int32.le_iff_toInt_le]
  exact ⟨Iff.rfl, Iff.rfl⟩
theorem fsc_0 {s : PS} {X : TT} {g m : Nat} (hg : s.h 0 = (g : Int)) (hm : s.h 1 = (m : Int)) (bg : g ≤ 6) (bm : m ≤ 8) (k2 : X.k = 2) (c1 : ¬ 0 ≤ oN (m_fst (fP (sn s) 14 X.v) g)) (c2 : oN (m_fst (fP (sn s) 20 X.v) m) < 0) : fsc s X = 0 := by
  have e := fsc_e (X := X) hg hm bg bm
  unfold fsc
  rw [if_pos k2, if_neg]
  rintro (h | h)
  · exact c1 (e.1.mp h)
  · exact absurd (e.2.mp h) (Int32.not_le.mpr c2)
theorem fsc_3 {s : PS} {X : TT} {g m : Nat} (hg : s.h 0 = (g : Int)) (hm : s.h 1 = (m : Int)) (bg : g ≤ 6) (bm : m ≤ 8) (k2 : X.k = 2) (c : 0 ≤ oN (m_fst (fP (sn s) 14 X.v) g) ∨ ¬ oN (m_fst (fP (sn s) 20 X.v) m) < 0) : fsc s X = 3 := by
  have e := fsc_e (X := X) hg hm bg bm
  unfold fsc
  rw [if_pos k2, if_pos]
  exact c.elim (fun h => Or.inl (e.1.mpr h)) (fun h => Or.inr (e.2.mpr (Int32.not_lt.mp h)))
def PUX (F G : FW) (B : Nat → Int) (n lim i k : Nat) (C : Int32) : Prop := ∃ G1, RLX F G1 ∧ (C = 0 → RTK G1 B n lim (i + 1) ∧ G1.1 69 15 = F.1 69 15 ∧ (G1.1 69 18).toInt = (tok B n lim i).v ∧ G = fp G1 72 k (G1.1 69 18)) ∧ (¬ C = 0 → G = G1 ∧ G1.1 69 15 = C ∧ (G1.1 69 16).toInt = (tok B n lim i).pl)
def FRX (F G : FW) (B : Nat → Int) (n lim i a : Nat) (s : PS) : Prop := (fsc s (tok B n lim i) = 0 → ∃ w : Int64, w.toInt = (tok B n lim i).v ∧ RLX (fpl F 74 a w) G ∧ RTK G B n lim (i + 1) ∧ G.1 69 15 = F.1 69 15) ∧ (¬ fsc s (tok B n lim i) = 0 → RLX F G ∧ G.1 69 15 = fsc s (tok B n lim i) ∧ (G.1 69 16).toInt = (tok B n lim i).pl)
theorem FRX.bad {F : FW} {B : Nat → Int} {n lim i a : Nat} {s : PS} {c : Int32} (hT : RTK F B n lim i) (e : fsc s (tok B n lim i) = c) (hc : ¬ c = 0) : FRX F (fp (fp F 69 15 c) 69 16 (F.1 69 12)) B n lim i a s := by
  unfold FRX
  rw [e]
  exact ⟨fun z => absurd z hc, fun _ => ⟨(RLX.rf.fp (Or.inl rfl)).fp (Or.inr (Or.inl rfl)), (fp_ne (Or.inr (by decide))).trans fp_eq, (congrArg Int32.toInt fp_eq).trans hT.2.2.2.1.1⟩⟩
end
-- 63.b99b.lean.txt
section
set_option maxRecDepth 100000 in
set_option maxHeartbeats 4000000 in
theorem r_puts {F : FW} {B : Nat → Int} {n lim i : Nat} (hG : GW F) (hT : RTK F B n lim i) {k : Nat} (hk : k < 120) (lo hi : Int32) : Pm Z_X11_puts [.ref 69, .int (Int32.ofNat k), .int lo, .int hi] F (fun r F' => r = some (.int (b2i (decide (tnN (tok B n lim i) lo.toInt hi.toInt = 0)))) ∧ PUX F F' B n lim i k (tnN (tok B n lim i) lo.toInt hi.toInt)) := by
  refine Pm.of fun N => ?_
  obtain ⟨Q, hQ⟩ : ∃ Q : Option Value → FW → Prop, Q = (fun r F' => r = some (.int (b2i (decide (tnN (tok B n lim i) lo.toInt hi.toInt = 0)))) ∧ PUX F F' B n lim i k (tnN (tok B n lim i) lo.toInt hi.toInt)) := ⟨_, rfl⟩
  rw [← hQ]
  refine (show Pv (ab_T (L_X11_puts Z_X11_takes)) N 0 [some (.ref 69), some (.int (Int32.ofNat k)), some (.int lo), some (.int hi)] [] F Q from ?_)
  refine Pv.aload rfl rfl ?_
  refine Pv.iload rfl rfl ?_
  refine Pv.iload rfl rfl ?_
  refine Pv.callV (as := [.ref 69, .int lo, .int hi]) (rest := []) rfl rfl rfl (r_takes hG hT lo hi) ?_
  rintro _ G ⟨rfl, h1, h2⟩
  have gw := RLX.G h1.1 hG
  refine (show Pv _ _ 6 [some (.ref 69), some (.int (Int32.ofNat k)), some (.int lo), some (.int hi)] [.int (b2i (decide (tnN (tok B n lim i) lo.toInt hi.toInt = 0)))] G Q from ?_)
  refine Pv.if0 rfl (fun c1 => ?_) (fun c1 => ?_)
  · skip
    replace c1 : decide (b2i (decide (tnN (tok B n lim i) lo.toInt hi.toInt = 0)) = 0) = false := by simpa using c1
    replace c1 := of_decide_eq_false c1
    replace c1 := b2n.mp c1
    refine Pv.aload rfl rfl ?_
    refine Pv.getR (v := .ref 72) rfl rfl (GW.at (a := 69) (k := 7) (b := 72) gw (by decide)) ?_
    refine Pv.iload rfl rfl ?_
    refine Pv.aload rfl rfl ?_
    refine Pv.getI (z := G.1 69 18) rfl rfl (rfl) ?_
    refine Pv.astk (k := k) (z := G.1 69 18) rfl (i_toNat (by omega)) (rfl) ?_
    refine Pv.lit rfl ?_
    have e0 := of_decide_eq_true c1
    exact Pv.zret rfl (by rw [hQ]; exact ⟨by rw [decide_eq_true e0]; rfl, G, h1.1, fun e => ⟨(h1.2.1 e).1, (h1.2.1 e).2, h2 e, rfl⟩, fun e => absurd e0 e⟩)
  · skip
    replace c1 : decide (b2i (decide (tnN (tok B n lim i) lo.toInt hi.toInt = 0)) = 0) = true := by simpa using c1
    replace c1 := of_decide_eq_true c1
    replace c1 := b2z.mp c1
    refine Pv.lit rfl ?_
    have e0 := of_decide_eq_false c1
    exact Pv.zret rfl (by rw [hQ]; exact ⟨by rw [decide_eq_false e0]; rfl, G, h1.1, fun e => absurd e e0, fun e => ⟨rfl, (h1.2.2 e).1, (h1.2.2 e).2⟩⟩)
set_option maxRecDepth 100000 in
set_option maxHeartbeats 4000000 in
theorem r_fresh {F : FW} {B : Nat → Int} {n lim i : Nat} (hG : GW F) (hT : RTK F B n lim i) {s : PS} {g m : Nat} (hs : SRF F s) (hg : s.h 0 = (g : Int)) (hm : s.h 1 = (m : Int)) (hR : RWF F) {a : Nat} (ha : a < 28) : Pm Z_X11_fresh [.ref 69, .int (Int32.ofNat a)] F (fun r F' => r = some (.int (b2i (decide (fsc s (tok B n lim i) = 0)))) ∧ FRX F F' B n lim i a s) := by
  refine Pm.of fun N => ?_
  obtain ⟨Q, hQ⟩ : ∃ Q : Option Value → FW → Prop, Q = (fun r F' => r = some (.int (b2i (decide (fsc s (tok B n lim i) = 0)))) ∧ FRX F F' B n lim i a s) := ⟨_, rfl⟩
  rw [← hQ]
  have bb := hs.b
  unfold PSB at bb
  have bg : g ≤ 6 := by omega
  have bm : m ≤ 8 := by omega
  refine (show Pv (ab_T (L_X11_fresh Z_X11_isName Z_X11_bad Z_X11_find Z_X11_next)) N 0 [some (.ref 69), some (.int (Int32.ofNat a))] [] F Q from ?_)
  refine Pv.aload rfl rfl ?_
  refine Pv.callVI (as := [.ref 69]) (rest := []) (z := b2i (decide ((tok B n lim i).k = 2))) rfl rfl rfl (r_isName hG hT.2.2.2.1 (tok_wok _ _ _ _) (tok_k88 _ _ _ _) hR) ?_
  refine Pv.if0 rfl (fun c1 => ?_) (fun c1 => ?_)
  · skip
    replace c1 : decide (b2i (decide ((tok B n lim i).k = 2)) = 0) = false := by simpa using c1
    replace c1 := of_decide_eq_false c1
    replace c1 := b2n.mp c1
    refine Pv.aload rfl rfl ?_
    refine Pv.lit rfl ?_
    refine Pv.aload rfl rfl ?_
    refine Pv.getR (v := .ref 72) rfl rfl (GW.at (a := 69) (k := 7) (b := 72) hG (by decide)) ?_
    refine Pv.lit rfl ?_
    refine Pv.ald (z := Int32.ofNat g) rfl (hs.at (by decide) hg) ?_
    refine Pv.callVI (as := [.ref 69, .int 14, .int (Int32.ofNat g)]) (rest := []) (z := oN (m_fst (fP (sn s) 14 (tok B n lim i).v) g)) rfl rfl rfl (r_find (nm := sn s) (o := 14) (v := (tok B n lim i).v) hG (by decide) (by omega) (hs.g hg) rfl (ntf_w hT.2.2.2.1 (of_decide_eq_true c1))) ?_
    refine Pv.if0 rfl (fun c2 => ?_) (fun c2 => ?_)
    · skip
      replace c2 := of_decide_eq_true c2
      refine Pv.aload rfl rfl ?_
      refine Pv.lit rfl ?_
      refine Pv.callVI (as := [.ref 69, .int 3]) (rest := []) (z := 0) rfl rfl rfl (r_bad (c := 3) hG) ?_
      have ef := fsc_3 hg hm bg bm (of_decide_eq_true c1) (Or.inl c2)
      exact Pv.zret rfl (by rw [hQ]; exact ⟨by rw [ef]; rfl, FRX.bad hT ef (by decide)⟩)
    · skip
      replace c2 := of_decide_eq_false c2
      refine Pv.aload rfl rfl ?_
      refine Pv.lit rfl ?_
      refine Pv.aload rfl rfl ?_
      refine Pv.getR (v := .ref 72) rfl rfl (GW.at (a := 69) (k := 7) (b := 72) hG (by decide)) ?_
      refine Pv.lit rfl ?_
      refine Pv.ald (z := Int32.ofNat m) rfl (hs.at (by decide) hm) ?_
      refine Pv.callVI (as := [.ref 69, .int 20, .int (Int32.ofNat m)]) (rest := []) (z := oN (m_fst (fP (sn s) 20 (tok B n lim i).v) m)) rfl rfl rfl (r_find (nm := sn s) (o := 20) (v := (tok B n lim i).v) hG (by decide) (by omega) (hs.m hm) rfl (ntf_w hT.2.2.2.1 (of_decide_eq_true c1))) ?_
      refine Pv.if0 rfl (fun c3 => ?_) (fun c3 => ?_)
      · skip
        replace c3 := of_decide_eq_true c3
        refine Pv.aload rfl rfl ?_
        refine Pv.getR (v := .ref 74) rfl rfl (GW.at (a := 69) (k := 9) (b := 74) hG (by decide)) ?_
        refine Pv.iload rfl rfl ?_
        refine Pv.aload rfl rfl ?_
        refine Pv.getL (z := F.2.2.1 69 17) rfl rfl (rfl) ?_
        refine Pv.lastk (k := a) rfl (i_toNat (by omega)) ?_
        refine Pv.aload rfl rfl ?_
        refine Pv.callV (as := [.ref 69]) (rest := []) rfl rfl rfl (r_next (GW.fx hG ((FX.rf (P := fun q => q = 74)).fpl rfl)) hT.l74) ?_
        rintro _ Gn ⟨rfl, xn, tn⟩
        have gn := RNX.G xn (GW.fx hG ((FX.rf (P := fun q => q = 74)).fpl rfl))
        refine (show Pv _ _ 63 [some (.ref 69), some (.int (Int32.ofNat a))] [] Gn Q from ?_)
        refine Pv.lit rfl ?_
        have ef := fsc_0 hg hm bg bm (of_decide_eq_true c1) c2 c3
        exact Pv.zret rfl (by rw [hQ]; exact ⟨by rw [ef]; rfl, fun _ => ⟨_, ntf_w hT.2.2.2.1 (of_decide_eq_true c1), RLX.of xn, tn, xn.2.1 15 (by decide) (by decide) (by decide) (by decide) (by decide)⟩, fun e => absurd ef e⟩)
      · skip
        replace c3 := of_decide_eq_false c3
        refine Pv.aload rfl rfl ?_
        refine Pv.lit rfl ?_
        refine Pv.callVI (as := [.ref 69, .int 3]) (rest := []) (z := 0) rfl rfl rfl (r_bad (c := 3) hG) ?_
        have ef := fsc_3 hg hm bg bm (of_decide_eq_true c1) (Or.inr c3)
        exact Pv.zret rfl (by rw [hQ]; exact ⟨by rw [ef]; rfl, FRX.bad hT ef (by decide)⟩)
  · skip
    replace c1 : decide (b2i (decide ((tok B n lim i).k = 2)) = 0) = true := by simpa using c1
    replace c1 := of_decide_eq_true c1
    replace c1 := b2z.mp c1
    refine Pv.aload rfl rfl ?_
    refine Pv.lit rfl ?_
    refine Pv.callVI (as := [.ref 69, .int 1]) (rest := []) (z := 0) rfl rfl rfl (r_bad (c := 1) hG) ?_
    have ef := fsc_1 (s := s) (of_decide_eq_false c1)
    exact Pv.zret rfl (by rw [hQ]; exact ⟨by rw [ef]; rfl, FRX.bad hT ef (by decide)⟩)
end
-- 63.b99c.st.lean.txt
section
def LRQ (F G : FW) (B : Nat → Int) (n lim : Nat) (r : Option Value) (x : LR) : Prop := RSX F G ∧ match x with
  | .inl y => r = some (.int 1) ∧ RTK G B n lim y.2 ∧ G.1 69 15 = F.1 69 15 ∧ SRF G y.1
  | .inr z => r = some (.int 0) ∧ (G.1 69 15).toInt = z.1 ∧ (G.1 69 16).toInt = (tok B n lim z.2).pl
theorem LRQ.ok {F G : FW} {B : Nat → Int} {n lim j : Nat} {x : LR} {s : PS} (e : x = LR.ok s j) (h : RSX F G) (t : RTK G B n lim j) (e15 : G.1 69 15 = F.1 69 15) (hs : SRF G s) : LRQ F G B n lim (some (.int 1)) x := by
  rw [e]
  exact ⟨h, rfl, t, e15, hs⟩
theorem LRQ.bad {F G : FW} {B : Nat → Int} {n lim j : Nat} {x : LR} {f : Int} (e : x = LR.bad f j) (h : RSX F G) (h1 : (G.1 69 15).toInt = f) (h2 : (G.1 69 16).toInt = (tok B n lim j).pl) : LRQ F G B n lim (some (.int 0)) x := by
  rw [e]
  exact ⟨h, rfl, h1, h2⟩
theorem LRQ.rb {F G : FW} {B : Nat → Int} {n lim j : Nat} {x : LR} {c : Int32} (e : x = LR.bad c.toInt j) (h : RSX F G) (t : RTK G B n lim j) : LRQ F (fp (fp G 69 15 c) 69 16 (G.1 69 12)) B n lim (some (.int 0)) x :=
  LRQ.bad e (h.lx ((RLX.rf.fp (Or.inl rfl)).fp (Or.inr (Or.inl rfl)))) (congrArg Int32.toInt ((fp_ne (Or.inr (by decide))).trans fp_eq)) ((congrArg Int32.toInt fp_eq).trans t.2.2.2.1.1)
theorem LRQ.put {F Fm G : FW} {B : Nat → Int} {n lim j k : Nat} {x : LR} {lo hi : Int} {s : PS} (hR : RSX F Fm) (e15 : Fm.1 69 15 = F.1 69 15) (hs : SRF Fm s) (hk : k ≠ 0 ∧ k ≠ 1 ∧ k ≠ 3) (p : PUX Fm G B n lim j k (tnN (tok B n lim j) lo hi)) (ex : x = lnum (tok B n lim) j lo hi fun v => LR.ok (ups s.h k v, s.2) (j + 1)) : LRQ F G B n lim (some (.int (b2i (decide (tnN (tok B n lim j) lo hi = 0))))) x := by
  obtain ⟨G1, x1, hy, hn⟩ := p
  by_cases c : tnN (tok B n lim j) lo hi = 0
  · obtain ⟨t, z15, hv, rfl⟩ := hy c
    rw [decide_eq_true c]
    exact LRQ.ok (ex.trans (lnum_y c)) (hR.lx x1).p72 (t.oth (Or.inl rfl)) ((fp_ne (Or.inl (by decide))).trans (z15.trans e15)) ((hs.lx x1).put hk hv)
  · obtain ⟨rfl, z1, z2⟩ := hn c
    rw [decide_eq_false c]
    exact LRQ.bad (ex.trans (lnum_n c)) (hR.lx x1) (congrArg Int32.toInt z1) z2
theorem ld_0 {b : Bool} : (if b = true then (1 : Int32) else 0) = 0 ↔ ¬ b = true := by
  cases b <;> decide
theorem fresh_gw {F G : FW} {B : Nat → Int} {n lim i a : Nat} {s : PS} (g : GW F) (h : fsc s (tok B n lim i) = 0 → ∃ w : Int64, w.toInt = (tok B n lim i).v ∧ RLX (fpl F 74 a w) G ∧ RTK G B n lim (i + 1) ∧ G.1 69 15 = F.1 69 15) (h2 : ¬ fsc s (tok B n lim i) = 0 → RLX F G ∧ G.1 69 15 = fsc s (tok B n lim i) ∧ (G.1 69 16).toInt = (tok B n lim i).pl) : GW G := by
  by_cases c : fsc s (tok B n lim i) = 0
  · obtain ⟨w, -, x, -⟩ := h c
    exact RLX.G x (g.fx ((FX.rf (P := fun q => q = 74)).fpl rfl))
  · exact RLX.G (h2 c).1 g
theorem puts_gw {F G G1 : FW} {P1 P2 P3 P4 P5 : Prop} {k : Nat} {C v : Int32} (g : GW F) (x : RLX F G1) (h : C = 0 → P1 ∧ P2 ∧ P3 ∧ G = fp G1 72 k v) (h2 : ¬ C = 0 → G = G1 ∧ P4 ∧ P5) : GW G := by
  by_cases c : C = 0
  · obtain ⟨-, -, -, rfl⟩ := h c
    exact (RLX.G x g).fx ((FX.rf (P := fun q => q = 72)).fp rfl)
  · obtain ⟨rfl, -⟩ := h2 c
    exact RLX.G x g
theorem lnMan_y {T : Nat → TT} {s : PS} {m i : Nat} (h8 : ¬ 8 ≤ s.h 1) (hm : s.h 1 = (m : Int)) (ez : fsc s (T (i + 1)) = 0) (ep : tnN (T (i + 2)) 0 1 = 0) : lnMan T s i = LR.ok (ups (ups s.h (52 + m) (T (i + 2)).v) 1 (ups s.h (52 + m) (T (i + 2)).v 1 + 1), ups s.nm (6 + m) (T (i + 1)).v, s.ld, s.tl) (i + 3) := by
  unfold lnMan
  rw [if_neg h8, lnew_y ez, lnum_y ep, show (s.h 1).toNat = m by omega, ups_ne (show 1 ≠ 52 + m by omega)]
end
-- 63.b99d.lean.txt
section
set_option maxRecDepth 100000 in
set_option maxHeartbeats 4000000 in
theorem r_ln10 {F : FW} {B : Nat → Int} {n lim i : Nat} (hG : GW F) (hT : RTK F B n lim i) {s : PS} {g m : Nat} (hs : SRF F s) (hg : s.h 0 = (g : Int)) (hm : s.h 1 = (m : Int)) (hR : RWF F) (N : Nat) : Pv (ab_T (L_X11_line Z_X11_isWord Z_X11_bad Z_X11_next Z_X11_puts Z_X11_fresh Z_X11_readMisses Z_X11_takesName Z_X11_bitOf)) N 10 [some (.ref 69), none, none, none] [] F (fun r F' => LRQ F F' B n lim r (lnLoad (tok B n lim) s i)) := by
  obtain ⟨Q, hQ⟩ : ∃ Q : Option Value → FW → Prop, Q = (fun r F' => LRQ F F' B n lim r (lnLoad (tok B n lim) s i)) := ⟨_, rfl⟩
  rw [← hQ]
  have bb := hs.b
  unfold PSB at bb
  have bg : g ≤ 6 := by omega
  have bm : m ≤ 8 := by omega
  refine (show Pv (ab_T (L_X11_line Z_X11_isWord Z_X11_bad Z_X11_next Z_X11_puts Z_X11_fresh Z_X11_readMisses Z_X11_takesName Z_X11_bitOf)) N 10 [some (.ref 69), none, none, none] [] F Q from ?_)
  refine Pv.aload rfl rfl ?_
  refine Pv.getI (z := (if s.ld = true then 1 else 0)) rfl rfl (hs.ld) ?_
  refine Pv.if0 rfl (fun c1 => ?_) (fun c1 => ?_)
  · skip
    replace c1 := of_decide_eq_true c1
    refine Pv.aload rfl rfl ?_
    refine Pv.lit rfl ?_
    refine Pv.putI rfl rfl ?_
    refine Pv.aload rfl rfl ?_
    refine Pv.callV (as := [.ref 69]) (rest := []) rfl rfl rfl (r_next (GW.fx hG ((FX.rf (P := fun q => q = 69)).fp rfl)) (hT.oth (a := 69) (k := 20) (v := 1) (Or.inr (Or.inr ⟨rfl, Or.inl rfl⟩)))) ?_
    rintro _ Gn ⟨rfl, xn, tn⟩
    have gn := RNX.G xn (GW.fx hG ((FX.rf (P := fun q => q = 69)).fp rfl))
    refine (show Pv _ _ 32 [some (.ref 69), none, none, none] [] Gn Q from ?_)
    refine Pv.aload rfl rfl ?_
    refine Pv.lit rfl ?_
    refine Pv.lit rfl ?_
    refine Pv.lit rfl ?_
    refine Pv.callV (as := [.ref 69, .int 2, .int 1, .int 40]) (rest := []) rfl rfl rfl (r_puts (k := 2) gn tn (by decide) 1 40) ?_
    rintro _ G ⟨rfl, p⟩
    refine (show Pv _ _ 40 [some (.ref 69), none, none, none] [.int (b2i (decide (tnN (tok B n lim (i + 1)) (1 : Int32).toInt (40 : Int32).toInt = 0)))] G Q from ?_)
    have l1 : ¬ s.ld = true := ld_0.mp c1
    exact Pv.zret rfl (by rw [hQ]; exact LRQ.put (s := (s.h, s.nm, true, s.tl)) ((RSX.rf.p20).lx (RLX.of xn)) ((xn.2.1 15 (by decide) (by decide) (by decide) (by decide) (by decide)).trans (fp_ne (Or.inr (by decide)))) (hs.ld1.lx (RLX.of xn)) (by decide) p (by unfold lnLoad; rw [if_neg l1]; rfl))
  · skip
    replace c1 := of_decide_eq_false c1
    refine Pv.aload rfl rfl ?_
    refine Pv.lit rfl ?_
    refine Pv.callVI (as := [.ref 69, .int 3]) (rest := []) (z := 0) rfl rfl rfl (r_bad (c := 3) hG) ?_
    have l1 : s.ld = true := Classical.byContradiction fun z => c1 (ld_0.mpr z)
    exact Pv.zret rfl (by rw [hQ]; exact LRQ.rb (j := i) (c := 3) (by unfold lnLoad; rw [if_pos l1]; rfl) RSX.rf hT)
set_option maxRecDepth 100000 in
set_option maxHeartbeats 4000000 in
theorem r_ln51 {F : FW} {B : Nat → Int} {n lim i : Nat} (hG : GW F) (hT : RTK F B n lim i) {s : PS} {g m : Nat} (hs : SRF F s) (hg : s.h 0 = (g : Int)) (hm : s.h 1 = (m : Int)) (hR : RWF F) (N : Nat) : Pv (ab_T (L_X11_line Z_X11_isWord Z_X11_bad Z_X11_next Z_X11_puts Z_X11_fresh Z_X11_readMisses Z_X11_takesName Z_X11_bitOf)) N 51 [some (.ref 69), none, none, none] [] F (fun r F' => LRQ F F' B n lim r (lnGood (tok B n lim) s i)) := by
  obtain ⟨Q, hQ⟩ : ∃ Q : Option Value → FW → Prop, Q = (fun r F' => LRQ F F' B n lim r (lnGood (tok B n lim) s i)) := ⟨_, rfl⟩
  rw [← hQ]
  have bb := hs.b
  unfold PSB at bb
  have bg : g ≤ 6 := by omega
  have bm : m ≤ 8 := by omega
  refine (show Pv (ab_T (L_X11_line Z_X11_isWord Z_X11_bad Z_X11_next Z_X11_puts Z_X11_fresh Z_X11_readMisses Z_X11_takesName Z_X11_bitOf)) N 51 [some (.ref 69), none, none, none] [] F Q from ?_)
  refine Pv.aload rfl rfl ?_
  refine Pv.getR (v := .ref 72) rfl rfl (GW.at (a := 69) (k := 7) (b := 72) hG (by decide)) ?_
  refine Pv.lit rfl ?_
  refine Pv.ald (z := Int32.ofNat g) rfl (hs.at (by decide) hg) ?_
  refine Pv.lit rfl ?_
  refine Pv.icmp rfl (fun c1 => ?_) (fun c1 => ?_)
  · skip
    replace c1 : decide (Int32.ofNat g = 6) = false := by simpa using c1
    replace c1 := mt (i_eq (a := g) (b := 6) (by omega) (by omega)).mpr (of_decide_eq_false c1)
    refine Pv.aload rfl rfl ?_
    refine Pv.callV (as := [.ref 69]) (rest := []) rfl rfl rfl (r_next hG hT) ?_
    rintro _ Gn ⟨rfl, xn, tn⟩
    have gn := RNX.G xn hG
    have sn1 := hs.lx (RLX.of xn)
    refine (show Pv _ _ 72 [some (.ref 69), none, none, none] [] Gn Q from ?_)
    refine Pv.aload rfl rfl ?_
    refine Pv.lit rfl ?_
    refine Pv.aload rfl rfl ?_
    refine Pv.getR (v := .ref 72) rfl rfl (GW.at (a := 69) (k := 7) (b := 72) gn (by decide)) ?_
    refine Pv.lit rfl ?_
    refine Pv.ald (z := Int32.ofNat g) rfl ((xn.1.1 72 0 (by decide)).trans (hs.at (by decide) hg)) ?_
    refine Pv.bin (z := Int32.ofNat (14 + g)) rfl (i_add 14 g) ?_
    refine Pv.callV (as := [.ref 69, .int (Int32.ofNat (14 + g))]) (rest := []) rfl rfl rfl (r_fresh (a := 14 + g) gn tn sn1 hg hm ((RLX.of xn).RW hR) (by omega)) ?_
    rintro _ G2 ⟨rfl, fy, fn⟩
    have g2 : GW G2 := fresh_gw gn fy fn
    refine (show Pv _ _ 85 [some (.ref 69), none, none, none] [.int (b2i (decide (fsc s (tok B n lim (i + 1)) = 0)))] G2 Q from ?_)
    refine Pv.if0 rfl (fun c2 => ?_) (fun c2 => ?_)
    · skip
      replace c2 : decide (b2i (decide (fsc s (tok B n lim (i + 1)) = 0)) = 0) = false := by simpa using c2
      replace c2 := of_decide_eq_false c2
      replace c2 := b2n.mp c2
      have ez := of_decide_eq_true c2
      obtain ⟨wn, hwn, x2, t2, z2⟩ := fy ez
      have sn2 := (sn1.fl (a := 14 + g) (w := wn) hg hm (Or.inl ⟨rfl, by omega⟩)).lx x2
      have hnm : (G2.2.2.1 74 (14 + g)).toInt = (tok B n lim (i + 1)).v := (congrArg Int64.toInt ((x2.1.2.1 74 _ (by decide)).trans fpl_eq)).trans hwn
      have y2 : RSX F G2 := ((RSX.of (RLX.of xn)).l74 (by omega)).lx x2
      have z15 : G2.1 69 15 = F.1 69 15 := z2.trans (xn.2.1 15 (by decide) (by decide) (by decide) (by decide) (by decide))
      refine Pv.aload rfl rfl ?_
      refine Pv.getR (v := .ref 72) rfl rfl (GW.at (a := 69) (k := 7) (b := 72) g2 (by decide)) ?_
      refine Pv.lit rfl ?_
      refine Pv.dup2 rfl ?_
      refine Pv.ald (z := Int32.ofNat g) rfl (sn2.at (by decide) hg) ?_
      refine Pv.lit rfl ?_
      refine Pv.bin (z := Int32.ofNat (g + 1)) rfl (i_add g 1) ?_
      refine Pv.astk (k := 0) (z := Int32.ofNat (g + 1)) rfl (rfl) (rfl) ?_
      refine Pv.lit rfl ?_
      exact Pv.zret rfl (by rw [hQ]; exact LRQ.ok (by unfold lnGood; rw [if_neg (by omega)]; exact lnew_y ez) y2.p72 (t2.oth (Or.inl rfl)) ((fp_ne (Or.inl (by decide))).trans z15) (sn2.good hg (by omega) hnm))
    · skip
      replace c2 : decide (b2i (decide (fsc s (tok B n lim (i + 1)) = 0)) = 0) = true := by simpa using c2
      replace c2 := of_decide_eq_true c2
      replace c2 := b2z.mp c2
      refine Pv.lit rfl ?_
      have en := of_decide_eq_false c2
      exact Pv.zret rfl (by rw [hQ]; exact LRQ.bad (by unfold lnGood; rw [if_neg (by omega)]; exact lnew_n en) ((RSX.of (RLX.of xn)).lx (fn en).1) (congrArg Int32.toInt (fn en).2.1) (fn en).2.2)
  · skip
    replace c1 : decide (Int32.ofNat g = 6) = true := by simpa using c1
    replace c1 := (i_eq (a := g) (b := 6) (by omega) (by omega)).mp (of_decide_eq_true c1)
    refine Pv.aload rfl rfl ?_
    refine Pv.lit rfl ?_
    refine Pv.callVI (as := [.ref 69, .int 4]) (rest := []) (z := 0) rfl rfl rfl (r_bad (c := 4) hG) ?_
    exact Pv.zret rfl (by rw [hQ]; exact LRQ.rb (j := i) (c := 4) (by unfold lnGood; rw [if_pos (by omega)]; rfl) RSX.rf hT)
set_option maxRecDepth 100000 in
set_option maxHeartbeats 4000000 in
theorem r_ln112 {F : FW} {B : Nat → Int} {n lim i : Nat} (hG : GW F) (hT : RTK F B n lim i) {s : PS} {g m : Nat} (hs : SRF F s) (hg : s.h 0 = (g : Int)) (hm : s.h 1 = (m : Int)) (hR : RWF F) (N : Nat) : Pv (ab_T (L_X11_line Z_X11_isWord Z_X11_bad Z_X11_next Z_X11_puts Z_X11_fresh Z_X11_readMisses Z_X11_takesName Z_X11_bitOf)) N 112 [some (.ref 69), none, none, none] [] F (fun r F' => LRQ F F' B n lim r (lnMan (tok B n lim) s i)) := by
  obtain ⟨Q, hQ⟩ : ∃ Q : Option Value → FW → Prop, Q = (fun r F' => LRQ F F' B n lim r (lnMan (tok B n lim) s i)) := ⟨_, rfl⟩
  rw [← hQ]
  have bb := hs.b
  unfold PSB at bb
  have bg : g ≤ 6 := by omega
  have bm : m ≤ 8 := by omega
  refine (show Pv (ab_T (L_X11_line Z_X11_isWord Z_X11_bad Z_X11_next Z_X11_puts Z_X11_fresh Z_X11_readMisses Z_X11_takesName Z_X11_bitOf)) N 112 [some (.ref 69), none, none, none] [] F Q from ?_)
  refine Pv.aload rfl rfl ?_
  refine Pv.getR (v := .ref 72) rfl rfl (GW.at (a := 69) (k := 7) (b := 72) hG (by decide)) ?_
  refine Pv.lit rfl ?_
  refine Pv.ald (z := Int32.ofNat m) rfl (hs.at (by decide) hm) ?_
  refine Pv.istore (lo' := [some (.ref 69), some (.int (Int32.ofNat m)), none, none]) rfl rfl ?_
  refine Pv.iload rfl rfl ?_
  refine Pv.lit rfl ?_
  refine Pv.icmp rfl (fun c1 => ?_) (fun c1 => ?_)
  · skip
    replace c1 : decide (Int32.ofNat m = 8) = false := by simpa using c1
    replace c1 := mt (i_eq (a := m) (b := 8) (by omega) (by omega)).mpr (of_decide_eq_false c1)
    refine Pv.aload rfl rfl ?_
    refine Pv.callV (as := [.ref 69]) (rest := []) rfl rfl rfl (r_next hG hT) ?_
    rintro _ Gn ⟨rfl, xn, tn⟩
    have gn := RNX.G xn hG
    have sn1 := hs.lx (RLX.of xn)
    refine (show Pv _ _ 135 [some (.ref 69), some (.int (Int32.ofNat m)), none, none] [] Gn Q from ?_)
    refine Pv.aload rfl rfl ?_
    refine Pv.lit rfl ?_
    refine Pv.iload rfl rfl ?_
    refine Pv.bin (z := Int32.ofNat (20 + m)) rfl (i_add 20 m) ?_
    refine Pv.callV (as := [.ref 69, .int (Int32.ofNat (20 + m))]) (rest := []) rfl rfl rfl (r_fresh (a := 20 + m) gn tn sn1 hg hm ((RLX.of xn).RW hR) (by omega)) ?_
    rintro _ G2 ⟨rfl, fy, fn⟩
    have g2 : GW G2 := fresh_gw gn fy fn
    refine (show Pv _ _ 143 [some (.ref 69), some (.int (Int32.ofNat m)), none, none] [.int (b2i (decide (fsc s (tok B n lim (i + 1)) = 0)))] G2 Q from ?_)
    refine Pv.if0 rfl (fun c2 => ?_) (fun c2 => ?_)
    · skip
      replace c2 := of_decide_eq_true c2
      replace c2 := b2z.mp c2
      refine Pv.lit rfl ?_
      have en := of_decide_eq_false c2
      exact Pv.zret rfl (by rw [hQ]; exact LRQ.bad (by unfold lnMan; rw [if_neg (by omega)]; exact lnew_n en) ((RSX.of (RLX.of xn)).lx (fn en).1) (congrArg Int32.toInt (fn en).2.1) (fn en).2.2)
    · skip
      replace c2 := of_decide_eq_false c2
      replace c2 := b2n.mp c2
      have ez := of_decide_eq_true c2
      obtain ⟨wn, hwn, x2, t2, z2⟩ := fy ez
      have sn2 := (sn1.fl (a := 20 + m) (w := wn) hg hm (Or.inr rfl)).lx x2
      have hnm : (G2.2.2.1 74 (20 + m)).toInt = (tok B n lim (i + 1)).v := (congrArg Int64.toInt ((x2.1.2.1 74 _ (by decide)).trans fpl_eq)).trans hwn
      have y2 : RSX F G2 := ((RSX.of (RLX.of xn)).l74 (by omega)).lx x2
      have z15 : G2.1 69 15 = F.1 69 15 := z2.trans (xn.2.1 15 (by decide) (by decide) (by decide) (by decide) (by decide))
      refine Pv.aload rfl rfl ?_
      refine Pv.lit rfl ?_
      refine Pv.iload rfl rfl ?_
      refine Pv.bin (z := Int32.ofNat (52 + m)) rfl (i_add 52 m) ?_
      refine Pv.lit rfl ?_
      refine Pv.lit rfl ?_
      refine Pv.callV (as := [.ref 69, .int (Int32.ofNat (52 + m)), .int 0, .int 1]) (rest := []) rfl rfl rfl (r_puts (k := 52 + m) g2 t2 (by omega) 0 1) ?_
      rintro _ G3 ⟨rfl, G4, x4, py, pn⟩
      have g3 : GW G3 := puts_gw g2 x4 py pn
      refine (show Pv _ _ 156 [some (.ref 69), some (.int (Int32.ofNat m)), none, none] [.int (b2i (decide (tnN (tok B n lim (i + 2)) (0 : Int32).toInt (1 : Int32).toInt = 0)))] G3 Q from ?_)
      refine Pv.if0 rfl (fun c3 => ?_) (fun c3 => ?_)
      · skip
        replace c3 : decide (b2i (decide (tnN (tok B n lim (i + 2)) (0 : Int32).toInt (1 : Int32).toInt = 0)) = 0) = false := by simpa using c3
        replace c3 := of_decide_eq_false c3
        replace c3 := b2n.mp c3
        have ep := of_decide_eq_true c3
        obtain ⟨t5, z5, hv5, rfl⟩ := py ep
        have sn5 := (sn2.lx x4).put (k := 52 + m) (by omega) hv5
        have hm5 : ups s.h (52 + m) (tok B n lim (i + 2)).v 1 = (m : Int) := (ups_ne (by omega)).trans hm
        have hnm5 : ((fp G4 72 (52 + m) (G4.1 69 18)).2.2.1 74 (20 + m)).toInt = (tok B n lim (i + 1)).v := (congrArg Int64.toInt (x4.1.2.1 74 _ (by decide))).trans hnm
        refine Pv.aload rfl rfl ?_
        refine Pv.getR (v := .ref 72) rfl rfl (GW.at (a := 69) (k := 7) (b := 72) g3 (by decide)) ?_
        refine Pv.lit rfl ?_
        refine Pv.dup2 rfl ?_
        refine Pv.ald (z := Int32.ofNat m) rfl (sn5.at (by decide) hm5) ?_
        refine Pv.lit rfl ?_
        refine Pv.bin (z := Int32.ofNat (m + 1)) rfl (i_add m 1) ?_
        refine Pv.astk (k := 1) (z := Int32.ofNat (m + 1)) rfl (rfl) (rfl) ?_
        refine Pv.lit rfl ?_
        exact Pv.zret rfl (by rw [hQ]; exact LRQ.ok (lnMan_y (by omega) hm ez ep) ((y2.lx x4).p72).p72 ((t5.oth (Or.inl rfl)).oth (Or.inl rfl)) ((fp_ne (Or.inl (by decide))).trans ((fp_ne (Or.inl (by decide))).trans (z5.trans z15))) (sn5.man hm5 (by omega) hnm5))
      · skip
        replace c3 : decide (b2i (decide (tnN (tok B n lim (i + 2)) (0 : Int32).toInt (1 : Int32).toInt = 0)) = 0) = true := by simpa using c3
        replace c3 := of_decide_eq_true c3
        replace c3 := b2z.mp c3
        refine Pv.lit rfl ?_
        have en := of_decide_eq_false c3
        obtain ⟨eg, q1, q2⟩ := pn en
        subst eg
        exact Pv.zret rfl (by rw [hQ]; exact LRQ.bad (by unfold lnMan; rw [if_neg (by omega), lnew_y ez]; exact lnum_n en) (y2.lx x4) (congrArg Int32.toInt q1) q2)
  · skip
    replace c1 : decide (Int32.ofNat m = 8) = true := by simpa using c1
    replace c1 := (i_eq (a := m) (b := 8) (by omega) (by omega)).mp (of_decide_eq_true c1)
    refine Pv.aload rfl rfl ?_
    refine Pv.lit rfl ?_
    refine Pv.callVI (as := [.ref 69, .int 4]) (rest := []) (z := 0) rfl rfl rfl (r_bad (c := 4) hG) ?_
    exact Pv.zret rfl (by rw [hQ]; exact LRQ.rb (j := i) (c := 4) (by unfold lnMan; rw [if_pos (by omega)]; rfl) RSX.rf hT)
end
-- 63.b99e.st.lean.txt
section
theorem SRF.eqv {F : FW} {s : PS} {i w : Nat} (h : SRF F s) (hi : i < 120) (hw : w < 1000) : F.1 72 i = Int32.ofNat w ↔ s.h i = (w : Int) := by
  rw [k_eq (h.h hi), i_toInt (by omega)]
theorem mt_0 {D M X : Bool} (h : b2i (!(D || M)) = 0) : 0 = b2i (!(D || (M || X))) := by
  cases D <;> cases M <;> cases X <;> first | rfl | exact absurd h (by decide)
theorem mt_1 {D M X : Bool} (h : ¬ b2i (!(D || M)) = 0) (x : X = false) : 1 = b2i (!(D || (M || X))) := by
  subst x
  cases D <;> cases M <;> first | rfl | exact absurd rfl h
theorem mt_x {D M X : Bool} (x : X = true) : 0 = b2i (!(D || (M || X))) := by
  subst x
  cases D <;> cases M <;> rfl
theorem mt_y {D M : Bool} (h : b2i (!(D || M)) = 0) : D = true ∨ M = true := by
  cases D <;> cases M <;> first | exact Or.inl rfl | exact Or.inr rfl | exact absurd h (by decide)
theorem mt_n {D M : Bool} (h : ¬ b2i (!(D || M)) = 0) : D = false ∧ M = false := by
  cases D <;> cases M <;> first | exact ⟨rfl, rfl⟩ | exact absurd rfl h
theorem lnMiss_y {T : Nat → TT} {s : PS} {m q w1 w2 i : Nat} (h20 : ¬ 20 ≤ s.h 3) (hm : s.h 1 = (m : Int)) (hq : s.h 3 = (q : Int)) (l1 : ∀ k : Int → LR, lold T s 6 (m : Int) (i + 1) k = k (w1 : Int)) (l2 : ∀ k : Int → LR, lold T s 6 (m : Int) (i + 2) k = k (w2 : Int)) (hM : ¬ ((w1 : Int) = (w2 : Int) ∨ mtold s.h (w1 : Int) (w2 : Int) q = true)) (ep : tnN (T (i + 3)) 0 60 = 0) :
    lnMiss T s i = LR.ok (ups (ups (ups (ups s.h (60 + q) (w1 : Int)) (80 + q) (w2 : Int)) (100 + q) (T (i + 3)).v) 3 (ups (ups (ups s.h (60 + q) (w1 : Int)) (80 + q) (w2 : Int)) (100 + q) (T (i + 3)).v 3 + 1), s.2) (i + 4) := by
  unfold lnMiss
  rw [if_neg h20, hm]
  refine (l1 _).trans ((l2 _).trans ?_)
  rw [show (s.h 3).toNat = q by omega, if_neg hM, lnum_y ep, ups_ne (show 3 ≠ 100 + q by omega), ups_ne (show 3 ≠ 80 + q by omega), ups_ne (show 3 ≠ 60 + q by omega)]
  rfl
theorem lnMiss_t {T : Nat → TT} {s : PS} {m q w1 w2 i : Nat} (h20 : ¬ 20 ≤ s.h 3) (hm : s.h 1 = (m : Int)) (hq : s.h 3 = (q : Int)) (l1 : ∀ k : Int → LR, lold T s 6 (m : Int) (i + 1) k = k (w1 : Int)) (l2 : ∀ k : Int → LR, lold T s 6 (m : Int) (i + 2) k = k (w2 : Int)) (hM : (w1 : Int) = (w2 : Int) ∨ mtold s.h (w1 : Int) (w2 : Int) q = true) : lnMiss T s i = LR.bad 3 (i + 2) := by
  unfold lnMiss
  rw [if_neg h20, hm]
  refine (l1 _).trans ((l2 _).trans ?_)
  rw [show (s.h 3).toNat = q by omega, if_pos hM]
theorem lnMiss_n {T : Nat → TT} {s : PS} {m q w1 w2 i : Nat} (h20 : ¬ 20 ≤ s.h 3) (hm : s.h 1 = (m : Int)) (hq : s.h 3 = (q : Int)) (l1 : ∀ k : Int → LR, lold T s 6 (m : Int) (i + 1) k = k (w1 : Int)) (l2 : ∀ k : Int → LR, lold T s 6 (m : Int) (i + 2) k = k (w2 : Int)) (hM : ¬ ((w1 : Int) = (w2 : Int) ∨ mtold s.h (w1 : Int) (w2 : Int) q = true)) (ep : ¬ tnN (T (i + 3)) 0 60 = 0) : lnMiss T s i = LR.bad (tnN (T (i + 3)) 0 60).toInt (i + 3) := by
  unfold lnMiss
  rw [if_neg h20, hm]
  refine (l1 _).trans ((l2 _).trans ?_)
  rw [show (s.h 3).toNat = q by omega, if_neg hM]
  exact lnum_n ep
end
