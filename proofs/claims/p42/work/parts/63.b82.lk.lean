/-! ===== a name that is looked up ===== -/
theorem lkc_ok {nm : Nat → Int} {o q : Nat} {X : TT} (hq : q ≤ 8) (h : X.k = 2) (c : 0 ≤ oN (m_fst (fP nm o X.v) q)) : lkc nm o q X = 0 := by
  unfold lkc
  rw [if_pos h]
  refine if_neg (fun e => ?_)
  rw [e] at c
  exact absurd c (by decide)
theorem lkc_3 {nm : Nat → Int} {o q : Nat} {X : TT} (hq : q ≤ 8) (h : X.k = 2) (c : ¬ 0 ≤ oN (m_fst (fP nm o X.v) q)) : lkc nm o q X = 3 := by
  unfold lkc
  rw [if_pos h]
  exact if_pos ((oN_neg hq).mp (Int32.not_le.mp c))
theorem lkc_1 {nm : Nat → Int} {o q : Nat} {X : TT} (h : ¬ X.k = 2) : lkc nm o q X = 1 := if_neg h
theorem ntf_w {F : FW} {X : TT} (hN : NTF F X) (e : X.k = 2) : (F.2.2.1 69 17).toInt = X.v := hN.2.2.2.2.2 (by rw [e]; rfl)
/-- names, reserved words: what reading leaves -/
theorem RLX.RW {F G : FW} (h : RLX F G) (r : RWF F) : RWF G := fun j hj => by
  rw [h.1.2.1 75 j (by decide)]
  exact r j hj
