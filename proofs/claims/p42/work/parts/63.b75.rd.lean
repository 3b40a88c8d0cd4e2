/-! ===== the reference reads a TOKEN ===== -/
def bI (F : FW) (q : Nat) : Int32 := F.1 70 q &&& 255
def RBF (F : FW) (n : Nat) : Nat → Int := fun q => if q < n then (bI F q).toInt else 0
def pkw (F : FW) (n p : Nat) : Int32 := if p < n then bI F p else -1
def smL (x : Int32) : Bool := decide (97 ≤ x) && decide (x ≤ 122)
def dgL (x : Int32) : Bool := decide (48 ≤ x) && decide (x ≤ 57)
/-- cells of the reading: place in the tape, kind, place, length, number -/
def RNX (F G : FW) : Prop := FX (fun q => q = 69) F G ∧ (∀ k, k ≠ 4 → k ≠ 11 → k ≠ 12 → k ≠ 13 → k ≠ 14 → G.1 69 k = F.1 69 k) ∧ ∀ k, k ≠ 17 → G.2.2.1 69 k = F.2.2.1 69 k
theorem RNX.rf {F : FW} : RNX F F := ⟨FX.rf, fun _ _ _ _ _ _ => rfl, fun _ _ => rfl⟩
theorem RNX.tr {F G K : FW} (a : RNX F G) (b : RNX G K) : RNX F K := ⟨a.1.tr b.1, fun k h1 h2 h3 h4 h5 => (b.2.1 k h1 h2 h3 h4 h5).trans (a.2.1 k h1 h2 h3 h4 h5), fun k h => (b.2.2 k h).trans (a.2.2 k h)⟩
theorem RNX.fp {F G : FW} {k : Nat} {v : Int32} (h : RNX F G) (c : k = 4 ∨ k = 11 ∨ k = 12 ∨ k = 13 ∨ k = 14) : RNX F (fp G 69 k v) := ⟨h.1.fp rfl, fun j h1 h2 h3 h4 h5 => (fp_ne (Or.inr (by omega))).trans (h.2.1 j h1 h2 h3 h4 h5), h.2.2⟩
theorem RNX.fl {F G : FW} {v : Int64} (h : RNX F G) : RNX F (fpl G 69 17 v) := ⟨h.1.fpl rfl, h.2.1, fun j c => (fpl_ne (Or.inr c)).trans (h.2.2 j c)⟩
theorem RNX.G {F G : FW} (h : RNX F G) (g : GW F) : GW G := g.fx h.1
def NTF (F : FW) (T : TT) : Prop := (F.1 69 12).toInt = T.pl ∧ F.1 69 4 = Int32.ofNat T.nx ∧ (F.1 69 11).toInt = rkk T.k ∧ (rkk T.k = 2 → (F.1 69 14).toInt = T.v) ∧ (rkk T.k = 3 → (F.1 69 14).toInt = T.k) ∧ (rkk T.k = 1 → (F.2.2.1 69 17).toInt = T.v)
theorem fp_id {F : FW} {a k : Nat} {x : Int32} (h : F.1 a k = x) : F = fp F a k x := Prod.ext (funext fun p => funext fun j => by
  show F.1 p j = if p = a ∧ j = k then x else F.1 p j
  by_cases c : p = a ∧ j = k
  · rw [if_pos c, c.1, c.2, h]
  · rw [if_neg c]) rfl
theorem RB_lt {F : FW} {n q : Nat} (h : q < n) : RBF F n q = (bI F q).toInt := if_pos h
theorem RB_b (F : FW) (n q : Nat) : 0 ≤ RBF F n q ∧ RBF F n q ≤ 255 := by
  unfold RBF
  by_cases h : q < n
  · rw [if_pos h]
    exact oct_b _
  · rw [if_neg h]
    omega
theorem pkw_lt {F : FW} {n q : Nat} (h : q < n) : pkw F n q = bI F q := if_pos h
theorem pkw_ge {F : FW} {n q : Nat} (h : n ≤ q) : pkw F n q = -1 := if_neg (by omega)
theorem pkw_in {F : FW} {n q : Nat} {x : Int32} (h : pkw F n q = x) (hx : 0 ≤ x.toInt) : q < n ∧ RBF F n q = x.toInt := by
  by_cases c : q < n
  · rw [pkw_lt c] at h
    exact ⟨c, by rw [RB_lt c, h]⟩
  · rw [pkw_ge (by omega)] at h
    rw [← h] at hx
    exact absurd hx (by decide)
theorem pkw_to {F : FW} {n q : Nat} (h : q < n) : (pkw F n q).toInt = RBF F n q := by rw [pkw_lt h, RB_lt h]
theorem pkw_nb {F : FW} {n q : Nat} (h1 : ¬ pkw F n q = 32) (h2 : ¬ pkw F n q = 10) : n ≤ q ∨ tk_b (RBF F n q) = false := by
  by_cases c : q < n
  · refine Or.inr (tk_b_f (fun e => h1 ?_) (fun e => h2 ?_))
    · exact Int32.toInt_inj.mp ((pkw_to c).trans e)
    · exact Int32.toInt_inj.mp ((pkw_to c).trans e)
  · exact Or.inl (by omega)
theorem sm_t {F : FW} {n q : Nat} (h : smL (pkw F n q) = true) : q < n ∧ tk_l (RBF F n q) = true := by
  unfold smL at h
  rw [Bool.and_eq_true, decide_eq_true_eq, decide_eq_true_eq, Int32.le_iff_toInt_le, Int32.le_iff_toInt_le] at h
  have e1 : (97 : Int32).toInt = 97 := rfl
  have e2 : (122 : Int32).toInt = 122 := rfl
  by_cases c : q < n
  · rw [pkw_to c] at h
    exact ⟨c, tk_l_t (by omega) (by omega)⟩
  · rw [pkw_ge (by omega)] at h
    have e3 : (-1 : Int32).toInt = -1 := rfl
    omega
theorem sm_f {F : FW} {n q : Nat} (c : q < n) (h : smL (pkw F n q) = false) : tk_l (RBF F n q) = false := by
  cases e : tk_l (RBF F n q) with
  | false => rfl
  | true =>
    have b := tk_l_i e
    have e1 : (97 : Int32).toInt = 97 := rfl
    have e2 : (122 : Int32).toInt = 122 := rfl
    unfold smL at h
    rw [decide_eq_true (show (97 : Int32) ≤ pkw F n q from by rw [Int32.le_iff_toInt_le, pkw_to c]; omega), decide_eq_true (show pkw F n q ≤ (122 : Int32) from by rw [Int32.le_iff_toInt_le, pkw_to c]; omega)] at h
    cases h
theorem dg_t {F : FW} {n q : Nat} (h : dgL (pkw F n q) = true) : q < n ∧ tk_d (RBF F n q) = true := by
  unfold dgL at h
  rw [Bool.and_eq_true, decide_eq_true_eq, decide_eq_true_eq, Int32.le_iff_toInt_le, Int32.le_iff_toInt_le] at h
  have e1 : (48 : Int32).toInt = 48 := rfl
  have e2 : (57 : Int32).toInt = 57 := rfl
  by_cases c : q < n
  · rw [pkw_to c] at h
    exact ⟨c, tk_d_t (by omega) (by omega)⟩
  · rw [pkw_ge (by omega)] at h
    have e3 : (-1 : Int32).toInt = -1 := rfl
    omega
theorem dg_f {F : FW} {n q : Nat} (c : q < n) (h : dgL (pkw F n q) = false) : tk_d (RBF F n q) = false := by
  cases e : tk_d (RBF F n q) with
  | false => rfl
  | true =>
    have b := tk_d_i e
    have e1 : (48 : Int32).toInt = 48 := rfl
    have e2 : (57 : Int32).toInt = 57 := rfl
    unfold dgL at h
    rw [decide_eq_true (show (48 : Int32) ≤ pkw F n q from by rw [Int32.le_iff_toInt_le, pkw_to c]; omega), decide_eq_true (show pkw F n q ≤ (57 : Int32) from by rw [Int32.le_iff_toInt_le, pkw_to c]; omega)] at h
    cases h
/-- not a letter, not a digit: the run is at its end -/
theorem rn_stop {F : FW} {n q : Nat} (h1 : smL (pkw F n q) = false) (h2 : dgL (pkw F n q) = false) : n ≤ q ∨ tk_r (RBF F n q) = false := by
  by_cases c : q < n
  · exact Or.inr (tk_r_f (sm_f c h1) (dg_f c h2))
  · exact Or.inl (by omega)
def cls (sm : Bool) : Int → Bool := cond sm tk_l tk_d
theorem cls_eq {c : Int} (sm : Bool) (h : tk_r c = true) : cls sm c = (tk_l c == sm) := by
  unfold cls
  cases sm with
  | true =>
    show tk_l c = _
    cases tk_l c <;> rfl
  | false =>
    cases e : tk_l c with
    | true =>
      show tk_d c = _
      rw [tk_ld e]
      rfl
    | false =>
      show tk_d c = _
      unfold tk_r at h
      rw [e, Bool.false_or] at h
      rw [h]
      rfl
theorem b2i_inj {a b : Bool} : b2i a = b2i b ↔ a = b := by
  cases a <;> cases b <;> decide
theorem all_s {B : Nat → Int} {q m : Nat} {sm : Bool} : allP (cls sm) B q (m + 1) = (allP (cls sm) B q m && cls sm (B (q + m))) := rfl
/-- what the run is -/
theorem run_no {B : Nat → Int} {q m : Nat} {sm : Bool} (hm : 1 ≤ m) (hsm : cls sm (B q) = true) (h : allP (cls sm) B q m = false ∨ (cond sm 7 3) < m) : trn B q m = ⟨1, q, 0, q + m⟩ := by
  unfold trn
  cases sm with
  | true =>
    have hl : tk_l (B q) = true := hsm
    rw [if_neg (fun c => ?_), if_neg (fun c => ?_)]
    · have := allP_0 c.1 hm
      rw [tk_ld hl] at this
      cases this
    · rcases h with h | h
      · exact absurd c.1 (by rw [show allP tk_l B q m = false from h]; decide)
      · have h' : 7 < m := h
        exact absurd c.2 (by omega)
  | false =>
    have hl : tk_d (B q) = true := hsm
    rw [if_neg (fun c => ?_), if_neg (fun c => ?_)]
    · rcases h with h | h
      · exact absurd c.1 (by rw [show allP tk_d B q m = false from h]; decide)
      · have h' : 3 < m := h
        exact absurd c.2 (by omega)
    · have := allP_0 c.1 hm
      rw [tk_dl hl] at this
      cases this
theorem run_l {B : Nat → Int} {q m : Nat} (h : allP (cls true) B q m = true) (hm : m ≤ 7) : trn B q m = ⟨kw (pv B q m), q, wd B q m, q + m⟩ := if_pos ⟨h, hm⟩
theorem run_d {B : Nat → Int} {q m : Nat} (h1 : 1 ≤ m) (hd : tk_d (B q) = true) (h : allP (cls false) B q m = true) (hm : m ≤ 3) : trn B q m = ⟨3, q, nb B q m, q + m⟩ := by
  unfold trn
  rw [if_neg (fun c => ?_)]
  · exact if_pos ⟨h, hm⟩
  · have := allP_0 c.1 h1
    rw [tk_dl hd] at this
    cases this
theorem or8 {w : Int64} {x : Int32} {B : Nat → Int} {q m : Nat} (hB : ∀ q, 0 ≤ B q ∧ B q ≤ 255) (hw : w.toInt = wd B q m) (hm : m ≤ 6) (hx : x.toInt = B (q + m)) : ((w <<< (Int32.toInt64 8 &&& 63)) ||| Int32.toInt64 x).toInt = wd B q (m + 1) := by
  have b := wd_48 hB (q := q) (l := m) hm
  have c := hB (q + m)
  have e := l_or8 (w := w) (c := Int32.toInt64 x) (y := 8) rfl (by omega) (by omega) (by rw [Int32.toInt_toInt64]; omega) (by rw [Int32.toInt_toInt64]; omega)
  rw [e, Int32.toInt_toInt64, hw, hx]
  rfl
theorem num3 {x c : Int32} {B : Nat → Int} {q m : Nat} (h : x.toInt = nb B q m) (hd : allP tk_d B q m = true) (hm : m ≤ 2) (hc : c.toInt = B (q + m)) (hB : ∀ q, 0 ≤ B q ∧ B q ≤ 255) : (10 * x + c - 48).toInt = nb B q (m + 1) := by
  have r := nb_rng hd (by omega)
  have c2 := hB (q + m)
  have e10 : (10 : Int32).toInt = 10 := rfl
  have e48 : (48 : Int32).toInt = 48 := rfl
  have e1 : (10 * x).toInt = 10 * x.toInt := by
    rw [Int32.toInt_mul, e10]
    exact Int.bmod_eq_of_le (by omega) (by omega)
  have e2 : (10 * x + c).toInt = 10 * x.toInt + c.toInt := by rw [i_addI (by omega) (by omega), e1]
  rw [i_subI (by omega) (by omega), e2, e48]
  show _ = nb B q m * 10 + (B (q + m) - 48)
  omega
theorem sg_y {F : FW} {n q : Nat} {x : Int32} (hq : q < n) (h : pkw F n q = x) (hx : x.toInt = 59 ∨ x.toInt = 40 ∨ x.toInt = 41 ∨ (60 ≤ x.toInt ∧ x.toInt ≤ 62)) : tsg (RBF F n q) = RBF F n q ∧ rkk (RBF F n q) = 3 := by
  have e : RBF F n q = x.toInt := by rw [← pkw_to hq, h]
  rw [e]
  exact rkk_yes hx
theorem sm_eq {F : FW} {n q : Nat} (h : q < n) : smL (pkw F n q) = tk_l (RBF F n q) := by
  cases e : smL (pkw F n q) with
  | true => rw [(sm_t e).2]
  | false => rw [sm_f h e]
theorem all_z {B : Nat → Int} {q m : Nat} {sm : Bool} (h : b2i (allP (cls sm) B q m) = 0) : 0 = b2i (allP (cls sm) B q (m + 1)) := by
  rw [all_s, b2z.mp h]
  rfl
theorem all_y {B : Nat → Int} {q m : Nat} {sm : Bool} (h : ¬ b2i (allP (cls sm) B q m) = 0) (hr : tk_r (B (q + m)) = true) (e : tk_l (B (q + m)) = sm) : 1 = b2i (allP (cls sm) B q (m + 1)) := by
  rw [all_s, b2n.mp h, cls_eq sm hr, e, Bool.true_and]
  cases sm <;> rfl
theorem all_n {B : Nat → Int} {q m : Nat} {sm : Bool} (hr : tk_r (B (q + m)) = true) (e : ¬ tk_l (B (q + m)) = sm) : 0 = b2i (allP (cls sm) B q (m + 1)) := by
  have e2 : (tk_l (B (q + m)) == sm) = false := beq_eq_false_iff_ne.mpr e
  rw [all_s, cls_eq sm hr, e2, Bool.and_false]
  rfl
theorem all_1 {B : Nat → Int} {q m : Nat} (h : allP (cls false) B q (m + 1) = true) : allP (cls false) B q m = true := by
  rw [all_s, Bool.and_eq_true] at h
  exact h.1
theorem pkw_neg {F : FW} {n q : Nat} (h : ¬ 0 ≤ pkw F n q) : n ≤ q := by
  by_cases c : q < n
  · refine absurd ?_ h
    rw [Int32.le_iff_toInt_le, pkw_to c]
    exact (RB_b F n q).1
  · omega
theorem pkw_pos {F : FW} {n q : Nat} (h : 0 ≤ pkw F n q) : q < n := by
  by_cases c : q < n
  · exact c
  · rw [pkw_ge (by omega)] at h
    exact absurd h (by decide)
theorem sg_3 {F : FW} {n q : Nat} (hq : q < n) (h1 : ¬ pkw F n q < 60) (h2 : ¬ (62 : Int32) < pkw F n q) : tsg (RBF F n q) = RBF F n q ∧ rkk (RBF F n q) = 3 := by
  rw [Int32.lt_iff_toInt_lt] at h1 h2
  have e1 : (60 : Int32).toInt = 60 := rfl
  have e2 : (62 : Int32).toInt = 62 := rfl
  exact sg_y hq rfl (Or.inr (Or.inr (Or.inr ⟨by omega, by omega⟩)))
theorem sg_n {F : FW} {n q : Nat} (hq : q < n) (h1 : ¬ pkw F n q = 59) (h2 : ¬ pkw F n q = 40) (h3 : ¬ pkw F n q = 41) (h4 : pkw F n q < 60 ∨ (62 : Int32) < pkw F n q) : rkk (tsg (RBF F n q)) = 4 := by
  refine rkk_no (fun c => ?_)
  rw [← pkw_to hq] at c
  have e1 : (60 : Int32).toInt = 60 := rfl
  have e2 : (62 : Int32).toInt = 62 := rfl
  rw [Int32.lt_iff_toInt_lt, Int32.lt_iff_toInt_lt] at h4
  rcases c with c | c | c | c
  · exact h1 (Int32.toInt_inj.mp c)
  · exact h2 (Int32.toInt_inj.mp c)
  · exact h3 (Int32.toInt_inj.mp c)
  · omega
