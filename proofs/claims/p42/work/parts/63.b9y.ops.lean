section OPQ
variable {Z : List Value → ab_H → Option ab_O} {as : List Value} {F : FW} {D : DD} {Q : Option Value → Prop}
theorem CO1q (h : CR F D) (p : Pm Z as F (fun r F' => Q r ∧ F' = F)) : Pm Z as F (fun r F' => Q r ∧ CR F' D ∧ KX F F') := p.imp fun r F' q => ⟨q.1, by rw [q.2]; exact h, by rw [q.2]; exact KX.rf⟩
theorem CO2q (h : CR F D) (p : Pm Z as F (fun r F' => Q r ∧ CDR F F')) : Pm Z as F (fun r F' => Q r ∧ CR F' D ∧ KX F F') := p.imp fun r F' q => ⟨q.1, h.fx q.2 (fun b (c : (7 ≤ b ∧ b ≤ 9) ∨ (20 ≤ b ∧ b ≤ 35) ∨ b = 40 ∨ b = 43) => by omega), FX.kx h q.2 (fun b (c : (7 ≤ b ∧ b ≤ 9) ∨ (20 ≤ b ∧ b ≤ 35) ∨ b = 40 ∨ b = 43) => by omega)⟩
theorem QO1q (h : XR F D) (p : Pm Z as F (fun r F' => Q r ∧ RDR F F')) : Pm Z as F (fun r F' => Q r ∧ XR F' D ∧ KC F F') := p.imp fun r F' q => ⟨q.1, by
    obtain ⟨-, x, e1, e9⟩ := q
    exact h.st x (fun b (c : b = 69 ∨ b = 71 ∨ b = 78 ∨ b = 79) => by omega) (fun k _ => e1 k) (h.s.of h.T.mb fun k _ _ => e1 k) (HSX.same h.h h.T.mb (e9 25 (by decide) (by decide) (by decide)) fun k => x.1 77 k (by decide)), q.2.1.kc (fun b (c : b = 69 ∨ b = 71 ∨ b = 78 ∨ b = 79) => by omega)⟩
theorem XR.f69 {G : FW} (h : XR F D) (x : FX (fun b => b = 69) F G) (e : G.1 69 25 = F.1 69 25) : XR G D := h.st x (fun b (c : b = 69) => by omega) (fun k _ => x.1 71 k (by decide)) (h.s.of h.T.mb fun k _ _ => x.1 71 k (by decide)) (HSX.same h.h h.T.mb e fun k => x.1 77 k (by decide))
theorem KC.f69 {G : FW} (x : FX (fun b => b = 69) F G) : KC F G := x.kc (fun b (c : b = 69) => by omega)
theorem QO3q (h : XR F D) (p : Pm Z as F (fun r F' => Q r ∧ F' = fp F 69 0 0)) : Pm Z as F (fun r F' => Q r ∧ XR F' D ∧ KC F F') := p.imp fun r F' q => by
  obtain ⟨e, rfl⟩ := q
  exact ⟨e, h.f69 (FX.rf.fp rfl) (fp_ne (Or.inr (by decide))), KC.f69 (FX.rf.fp rfl)⟩
end OPQ
def dU (D : DD) : DD := (dT D, dN D, if dn D = 0 then dS D else dH D (dn D - 1), dn D - 1, dH D, dI D)
theorem DOK.u {D : DD} (h : DOK D) : DOK (dU D) := by
  refine ⟨h.1, ?_, fun j (hj : j < dn D - 1) => h.2.2.1 j (by omega), h.2.2.2⟩
  show INV (dT D) (if dn D = 0 then dS D else dH D (dn D - 1))
  by_cases c : dn D = 0
  · rw [if_pos c]
    exact h.2.1
  · rw [if_neg c]
    exact h.2.2.1 _ (by omega)
theorem d_undo {F : FW} {D : DD} (h : CR F D) : Pm Z_X10_undo [.ref 0] F (fun r F' => r = some (.int (if dn D = 0 then -1 else Int32.ofNat (dn D - 1))) ∧ CR F' (dU D) ∧ KX F F') := by
  obtain ⟨t, ht, hT, j0, -⟩ := h.t
  refine (o_undo h.G ht hT h.s j0 h.h h.c).imp fun r F' q => ⟨q.1, ?_, FX.kx h q.2.2.2 (fun b (c : (12 ≤ b ∧ b ≤ 19) ∨ b = 10) => by omega)⟩
  exact CR.kf h (KF.rf.fx q.2.2.2 (fun _ _ p => p)) (fun b (c : (12 ≤ b ∧ b ≤ 19) ∨ b = 10) => by omega) q.2.2.1 q.2.1
theorem e_undo {F : FW} {D : DD} (h : XR F D) : Pm Z_X11_undo [.ref 69] F (fun r F' => r = some (.int (if dn D = 0 then -1 else Int32.ofNat (dn D - 1))) ∧ XR F' (dU D) ∧ KC F F') :=
  (q_undo h.T h.s h.G h.h).imp fun r F' q => ⟨q.1, h.st q.2.1.1 (fun b (c : b = 69 ∨ b = 71 ∨ b = 77 ∨ b = 78) => by omega) (fun k hk => q.2.1.2.2 k (Or.inl hk)) q.2.2.2 q.2.2.1, q.2.1.1.kc (fun b (c : b = 69 ∨ b = 71 ∨ b = 77 ∨ b = 78) => by omega)⟩
theorem d_settles {F : FW} {D : DD} (h : CR F D) : Pm Z_X10_settles [.ref 0] F (fun r F' => (∃ z, r = some (.int z)) ∧ CR F' D ∧ KX F F') := by
  obtain ⟨t, ht, hT, j0, -⟩ := h.t
  exact CO2q h (o_settles h.G ht hT h.s j0)
theorem e_settles {F : FW} {D : DD} (h : XR F D) (k : DOK D) : Pm Z_X11_settles [.ref 69] F (fun r F' => (∃ z, r = some (.int z)) ∧ XR F' D ∧ KC F F') := QO1q h (q_settles h.T h.s h.G k.1 k.2.1)
theorem d_prices {F : FW} {D : DD} (h : CR F D) : Pm Z_X10_prices [.ref 0] F (fun r F' => r = some (.int (Int32.ofNat (m_rounds (dT D) (dS D)))) ∧ CR F' D ∧ KX F F') := by
  obtain ⟨t, ht, hT, j0, -⟩ := h.t
  exact (o_prices h.G ht hT h.s j0).imp fun r F' q => ⟨q.1, h.fx q.2.1 (fun b (c : b = 0 ∨ (7 ≤ b ∧ b ≤ 9) ∨ (20 ≤ b ∧ b ≤ 27) ∨ b = 42) => by omega), FX.kx h q.2.1 (fun b (c : b = 0 ∨ (7 ≤ b ∧ b ≤ 9) ∨ (20 ≤ b ∧ b ≤ 27) ∨ b = 42) => by omega)⟩
theorem e_prices {F : FW} {D : DD} (h : XR F D) (k : DOK D) : Pm Z_X11_prices [.ref 69] F (fun r F' => r = some (.int (Int32.ofNat (m_rounds (dT D) (dS D)))) ∧ XR F' D ∧ KC F F') :=
  (q_prices h.T h.s h.G k.1 k.2.1).imp fun r F' q => ⟨q.1, by
    obtain ⟨x, e1, e9⟩ := q.2.1
    exact h.st x (fun b (c : b = 69 ∨ b = 71 ∨ b = 78 ∨ b = 80) => by omega) (fun k _ => e1 k) (h.s.of h.T.mb fun k _ _ => e1 k) (HSX.same h.h h.T.mb (e9 25 (by decide) (by decide) (by decide)) fun k => x.1 77 k (by decide)), q.2.1.1.kc (fun b (c : b = 69 ∨ b = 71 ∨ b = 78 ∨ b = 80) => by omega)⟩
theorem d_count {F : FW} {D : DD} {e : Int32} (h : CR F D) (he : F.1 1 1 = e) (w : Int32) : Pm Z_X10_count [.ref 0, .int w] F (fun r F' => r = some (.int (a_count (dT D) e w)) ∧ CR F' D ∧ KX F F') := by
  obtain ⟨t, ht, hT, j0, -⟩ := h.t
  exact CO1 h (o_count h.G ht hT he w)
theorem q_count {F : FW} {T : St} (hT : XT F T) (hG : GW F) {e : Int32} (he : F.1 69 2 = e) (w : Int32) : Pm Z_X11_count [.ref 69, .int w] F (fun r F' => r = some (.int (a_count T e w)) ∧ F' = fp F 69 0 0) := by
  cases hw : nd 5 w with
  | none => exact q_countn hT hG he hw
  | some k =>
    obtain ⟨hk, rfl⟩ := nd_some hw
    match k, hk with
    | 0, _ => exact q_count0 hT hG he
    | 1, _ => exact q_count1 hT hG he
    | 2, _ => exact q_count2 hT hG he
    | 3, _ => exact q_count3 hT hG he
    | 4, _ => exact q_count4 hT hG he
    | k + 5, h => exact absurd h (by omega)
theorem e_count {F : FW} {D : DD} {e : Int32} (h : XR F D) (he : F.1 69 2 = e) (w : Int32) : Pm Z_X11_count [.ref 69, .int w] F (fun r F' => r = some (.int (a_count (dT D) e w)) ∧ XR F' D ∧ KC F F') := QO3 h (q_count h.T h.G he w)
theorem d_fault {F : FW} {D : DD} (h : CR F D) : Pm Z_X10_fault [.ref 0] F (fun r F' => r = some (.int (F.1 0 18)) ∧ CR F' D ∧ KX F F') := by
  obtain ⟨t, ht, hT, j0, -⟩ := h.t
  exact CO1 h (o_fault h.G ht hT h.s j0)
theorem e_fault {F : FW} {D : DD} (h : XR F D) : Pm Z_X11_fault [.ref 69] F (fun r F' => r = some (.int (F.1 69 15)) ∧ XR F' D ∧ KC F F') := QO3 h q_fault
theorem d_which {F : FW} {D : DD} {n : Nat} (h : CR F D) (hn : F.1 1 1 = Int32.ofNat n) (hn9 : n ≤ 940) : Pm Z_X10_which [.ref 0] F (fun r F' => r = some (.int (a_which (dT D) n (fun q => F.1 2 q &&& 255))) ∧ CR F' D ∧ KX F F') := by
  obtain ⟨t, ht, hT, j0, -⟩ := h.t
  refine (o_which h.G ht hT h.s j0 n hn hn9).imp fun r F' q => ?_
  obtain ⟨e, rfl⟩ := q
  have x : FX (fun b => b = 1) F (fp F 1 1 0) := FX.rf.fp rfl
  exact ⟨e, h.fx x (fun b (c : b = 1) => by omega), FX.kx h x (fun b (c : b = 1) => by omega)⟩
theorem e_which {F : FW} {D : DD} {n : Nat} (h : XR F D) (hn : F.1 69 2 = Int32.ofNat n) (hn9 : n ≤ 940) : Pm Z_X11_which [.ref 69] F (fun r F' => r = some (.int (a_which (dT D) n (fun q => F.1 70 q &&& 255))) ∧ XR F' D ∧ KC F F') :=
  (q_which h.T h.s h.G hn hn9).imp fun r F' q => by
  obtain ⟨e, rfl⟩ := q
  have x : FX (fun b => b = 69) F (fp (fp (fp (fp (fp F 69 0 0) 69 3 (Int32.ofNat n)) 69 2 0) 69 4 0) 69 5 940) := (((((FX.rf (P := fun b => b = 69)).fp rfl).fp rfl).fp rfl).fp rfl).fp rfl
  exact ⟨e, h.f69 x ((fp_ne (Or.inr (by decide))).trans ((fp_ne (Or.inr (by decide))).trans ((fp_ne (Or.inr (by decide))).trans ((fp_ne (Or.inr (by decide))).trans (fp_ne (Or.inr (by decide))))))), KC.f69 x⟩
