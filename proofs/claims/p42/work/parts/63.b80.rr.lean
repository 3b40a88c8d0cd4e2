/-! ===== the reference asks what it read ===== -/
theorem rw_k {F : FW} {X : TT} (hN : NTF F X) (c : F.1 69 11 = 1) : rkk X.k = 1 := by
  have e : (1 : Int32).toInt = 1 := rfl
  rw [← hN.2.2.1, c, e]
theorem rw_n {F : FW} {X : TT} {j : Nat} (hN : NTF F X) (c : ¬ F.1 69 11 = 1) : ¬ X.k = 64 + (j : Int) := fun e => by
  refine c (Int32.toInt_inj.mp ?_)
  rw [hN.2.2.1, rkk_w (by omega)]
  rfl
theorem rw_eq {F : FW} {X : TT} {j : Nat} {w : Int64} (hN : NTF F X) (hW : WOK X) (hj : j < 25) (hw : w.toInt = rwd.getD j 0) (c : F.1 69 11 = 1) : F.2.2.1 69 17 = w ↔ X.k = 64 + (j : Int) := by
  have r := rw_k hN c
  have v := hN.2.2.2.2.2 r
  rw [← (hW (rkk_1 r)).2 j hj, ← hw, ← v]
  exact Int64.toInt_inj.symm
theorem rs_n {F : FW} {X : TT} {x : Int32} (hN : NTF F X) (hx : rkk x.toInt = 3) (c : ¬ F.1 69 11 = 3) : ¬ X.k = x.toInt := fun e => by
  refine c (Int32.toInt_inj.mp ?_)
  rw [hN.2.2.1, e, hx]
  rfl
theorem rs_eq {F : FW} {X : TT} {x : Int32} (hN : NTF F X) (c : F.1 69 11 = 3) : F.1 69 14 = x ↔ X.k = x.toInt := by
  have e : (3 : Int32).toInt = 3 := rfl
  have r : rkk X.k = 3 := by rw [← hN.2.2.1, c, e]
  rw [← hN.2.2.2.2.1 r]
  exact Int32.toInt_inj.symm
/-- the words that no name may be -/
def RWF (F : FW) : Prop := ∀ j, j < 25 → (F.2.2.1 75 j).toInt = rwd.getD j 0
/-- so far no such word -/
def nwd (X : TT) : Nat → Bool
  | 0 => decide (rkk X.k = 1)
  | j + 1 => nwd X j && !decide (X.k = 64 + (j : Int))
theorem nwd_n {X : TT} (h : ¬ rkk X.k = 1) : ∀ j, nwd X j = false
  | 0 => decide_eq_false h
  | j + 1 => by
    show (nwd X j && _) = false
    rw [nwd_n h j]
    rfl
theorem nwd_1 {X : TT} : ∀ j, nwd X j = true → rkk X.k = 1
  | 0, h => of_decide_eq_true h
  | j + 1, h => by
    have h' : (nwd X j && !decide (X.k = 64 + (j : Int))) = true := h
    rw [Bool.and_eq_true] at h'
    exact nwd_1 j h'.1
theorem nwd_l {X : TT} : ∀ j, nwd X j = true → ∀ l, l < j → ¬ X.k = 64 + (l : Int)
  | 0, _, l, hl => absurd hl (Nat.not_lt_zero l)
  | j + 1, h, l, hl => by
    have h' : (nwd X j && !decide (X.k = 64 + (j : Int))) = true := h
    rw [Bool.and_eq_true, Bool.not_eq_true', decide_eq_false_iff_not] at h'
    by_cases e : l = j
    · rw [e]
      exact h'.2
    · exact nwd_l j h'.1 l (by omega)
theorem nwd_2 {X : TT} (h : X.k = 2) : ∀ j, nwd X j = true
  | 0 => decide_eq_true (by rw [h]; rfl)
  | j + 1 => by
    show (nwd X j && !decide (X.k = 64 + (j : Int))) = true
    rw [nwd_2 h j, decide_eq_false (by omega)]
    rfl
theorem nwd_e {X : TT} (h8 : X.k ≤ 88) : nwd X 25 = decide (X.k = 2) := by
  by_cases c : X.k = 2
  · rw [nwd_2 c, decide_eq_true c]
  · rw [decide_eq_false c]
    cases e : nwd X 25 with
    | false => rfl
    | true =>
      rcases rkk_1 (nwd_1 25 e) with k | k
      · exact absurd k c
      · exact absurd (show X.k = 64 + ((X.k - 64).toNat : Int) by omega) (nwd_l 25 e (X.k - 64).toNat (by omega))
theorem rn_eq {F : FW} {X : TT} {j : Nat} (hN : NTF F X) (hW : WOK X) (hR : RWF F) (hj : j < 25) (h : nwd X j = true) : F.2.2.1 69 17 = F.2.2.1 75 j ↔ X.k = 64 + (j : Int) := by
  have r := nwd_1 j h
  have v := hN.2.2.2.2.2 r
  rw [← (hW (rkk_1 r)).2 j hj, ← hR j hj, ← v]
  exact Int64.toInt_inj.symm
def fP (nm : Nat → Int) (o : Nat) (v : Int) (g : Nat) : Bool := decide (nm (o + g) = v)
theorem fP_0 {nm : Nat → Int} {v : Int} : fP nm 0 v = gP nm v := funext fun g => by
  unfold fP gP
  rw [Nat.zero_add]
theorem fP_6 {nm : Nat → Int} {v : Int} : fP nm 6 v = mP nm v := rfl
