/-! ===== operations on both sides ===== -/
theorem CR.t {F : FW} {D : DD} (h : CR F D) : ∃ t : Nat, F.2.1 0 13 = .ref t ∧ TR F t (dT D) ∧ (t = 45 ∨ t = 53) ∧ NMC F t (dT D) (dN D) := by
  obtain ⟨t, p, j0, h1, -, h3, h4⟩ := h.l
  exact ⟨t, h1, h3, by omega, h4⟩
theorem XR.cells {F G : FW} {D : DD} (h : XR F D) (g : GW G) (e : ∀ a k, 69 ≤ a → a ≤ 86 → G.1 a k = F.1 a k) (l : ∀ a k, 69 ≤ a → a ≤ 86 → G.2.2.1 a k = F.2.2.1 a k) : XR G D :=
  ⟨g, h.T.of fun k _ => e 71 k (by omega) (by omega), h.s.of h.T.mb fun k _ _ => e 71 k (by omega) (by omega), HSX.same h.h h.T.mb (e 69 25 (by omega) (by omega)) (fun k => e 77 k (by omega) (by omega)), ⟨fun q hq => by rw [l 74 _ (by omega) (by omega)]; exact h.n.1 q hq, fun q hq => by rw [l 74 _ (by omega) (by omega)]; exact h.n.2 q hq⟩, fun j hj => by rw [l 75 _ (by omega) (by omega)]; exact h.w j hj, fun k hk => (h.i hk).ce (fun j => e 84 j (by omega) (by omega)) (e 86 k (by omega) (by omega)) (fun j => l 85 j (by omega) (by omega))⟩
theorem KF.kx {P : Nat → Prop} {F G : FW} {D : DD} (h : CR F D) (k : KF P F G) (hP : ∀ q, P q → q < 69) : KX F G := fun E x => x.cells (k.gw h.h h.G h.c) (fun a j a1 a2 => (k.cell h.h h.c (a := a) (by omega) (by omega) (by omega)).1 j (fun p => by have := hP a p; omega)) (fun a j a1 a2 => (k.cell h.h h.c (a := a) (by omega) (by omega) (by omega)).2.2 j (fun p => by have := hP a p; omega))
theorem FX.kx {P : Nat → Prop} {F G : FW} {D : DD} (h : CR F D) (x : FX P F G) (hP : ∀ q, P q → q < 69) : KX F G := KF.kx h (KF.rf.fx x (fun _ _ p => p)) hP
theorem FX.kc {P : Nat → Prop} {F G : FW} (x : FX P F G) (hP : ∀ q, P q → 69 ≤ q ∧ q < 88) : KC F G := fun D h => h.fx x fun q p => by
  have := hP q p
  omega
theorem XR.st {P : Nat → Prop} {F G : FW} {D : DD} {S' : Sh} {n' : Nat} {H' : Nat → Sh} (h : XR F D) (x : FX P F G) (hP : ∀ q, P q → q ≠ 74 ∧ q ≠ 75 ∧ q ≠ 84 ∧ q ≠ 85 ∧ q ≠ 86) (t : ∀ k, k < 120 → G.1 71 k = F.1 71 k) (s : XS G (t_m (dT D)) S') (hh : HSX G (t_m (dT D)) n' H') : XR G (dT D, dN D, S', n', H', dI D) :=
  ⟨h.G.fx x, h.T.of t, s, hh, ⟨fun q hq => by rw [x.2.1 74 _ (fun p => (hP 74 p).1 rfl)]; exact h.n.1 q hq, fun q hq => by rw [x.2.1 74 _ (fun p => (hP 74 p).1 rfl)]; exact h.n.2 q hq⟩, fun j hj => by rw [x.2.1 75 _ (fun p => (hP 75 p).2.1 rfl)]; exact h.w j hj, fun k hk => (h.i hk).ce (fun j => x.1 84 j (fun p => (hP 84 p).2.2.1 rfl)) (x.1 86 k (fun p => (hP 86 p).2.2.2.2 rfl)) (fun j => x.2.1 85 j (fun p => (hP 85 p).2.2.2.1 rfl))⟩
def dK (b : Bool) (S' : Sh) (D : DD) : DD := (dT D, dN D, S', if b = true then m_kn (dn D) else dn D, if b = true then m_kH (dn D) (dH D) (dS D) else dH D, dI D)
theorem DOK.k {D : DD} {b : Bool} {S' : Sh} (h : DOK D) (i : INV (dT D) S') : DOK (dK b S' D) := by
  refine ⟨h.1, i, fun j hj => ?_, h.2.2.2⟩
  cases b with
  | false => exact h.2.2.1 j hj
  | true =>
    show INV (dT D) (m_kH (dn D) (dH D) (dS D) j)
    have hj' : j < m_kn (dn D) := hj
    unfold m_kn at hj'
    unfold m_kH
    by_cases c : dn D < 8
    · rw [if_pos c] at hj' ⊢
      by_cases e : j < dn D
      · rw [if_pos e]
        exact h.2.2.1 j e
      · rw [if_neg e]
        exact h.2.1
    · rw [if_neg c] at hj' ⊢
      by_cases e : j < 7
      · rw [if_pos e]
        exact h.2.2.1 (j + 1) (by omega)
      · rw [if_neg e]
        exact h.2.1
section OPS
variable {Z : List Value → ab_H → Option ab_O} {as : List Value} {F : FW} {D : DD} {a : Int32}
theorem CO1 (h : CR F D) (p : Pm Z as F (fun r F' => r = some (.int a) ∧ F' = F)) : Pm Z as F (fun r F' => r = some (.int a) ∧ CR F' D ∧ KX F F') := p.imp fun r F' q => ⟨q.1, by rw [q.2]; exact h, by rw [q.2]; exact KX.rf⟩
theorem CO2 (h : CR F D) (p : Pm Z as F (fun r F' => r = some (.int a) ∧ CDR F F')) : Pm Z as F (fun r F' => r = some (.int a) ∧ CR F' D ∧ KX F F') := p.imp fun r F' q => ⟨q.1, h.fx q.2 (fun b (c : (7 ≤ b ∧ b ≤ 9) ∨ (20 ≤ b ∧ b ≤ 35) ∨ b = 40 ∨ b = 43) => by omega), FX.kx h q.2 (fun b (c : (7 ≤ b ∧ b ≤ 9) ∨ (20 ≤ b ∧ b ≤ 35) ∨ b = 40 ∨ b = 43) => by omega)⟩
theorem CO3 {P : Nat → Prop} {b : Bool} {S' : Sh} (h : CR F D) (hP : ∀ q, P q → q < 45) (p : Pm Z as F (fun r F' => r = some (.int a) ∧ HK b F' (t_m (dT D)) (dn D) (dH D) (dS D) ∧ SHR F' 12 (t_m (dT D)) S' ∧ KF P F F')) : Pm Z as F (fun r F' => r = some (.int a) ∧ CR F' (dK b S' D) ∧ KX F F') := p.imp fun r F' q => ⟨q.1, by
    have k := q.2.1
    have z := CR.kf h q.2.2.2 (fun x p => Or.inl (hP x p)) q.2.2.1 (n' := if b = true then m_kn (dn D) else dn D) (H' := if b = true then m_kH (dn D) (dH D) (dS D) else dH D) (by
      cases b with
      | false => exact k
      | true => exact k)
    exact z, KF.kx h q.2.2.2 (fun x p => by have := hP x p; omega)⟩
theorem QO1 (h : XR F D) (p : Pm Z as F (fun r F' => r = some (.int a) ∧ RDR F F')) : Pm Z as F (fun r F' => r = some (.int a) ∧ XR F' D ∧ KC F F') := p.imp fun r F' q => ⟨q.1, by
    obtain ⟨-, x, e1, e9⟩ := q
    exact h.st x (fun b (c : b = 69 ∨ b = 71 ∨ b = 78 ∨ b = 79) => by omega) (fun k _ => e1 k) (h.s.of h.T.mb fun k _ _ => e1 k) (HSX.same h.h h.T.mb (e9 25 (by decide) (by decide) (by decide)) fun k => x.1 77 k (by decide)), q.2.1.kc (fun b (c : b = 69 ∨ b = 71 ∨ b = 78 ∨ b = 79) => by omega)⟩
theorem QO3 (h : XR F D) (p : Pm Z as F (fun r F' => r = some (.int a) ∧ F' = fp F 69 0 0)) : Pm Z as F (fun r F' => r = some (.int a) ∧ XR F' D ∧ KC F F') := p.imp fun r F' q => by
  obtain ⟨e, rfl⟩ := q
  have x : FX (fun b => b = 69) F (fp F 69 0 0) := FX.rf.fp rfl
  exact ⟨e, h.st x (fun b (c : b = 69) => by omega) (fun k _ => fp_ne (Or.inl (by decide))) (h.s.of h.T.mb fun k _ _ => fp_ne (Or.inl (by decide))) (HSX.same h.h h.T.mb (fp_ne (Or.inr (by decide))) fun k => x.1 77 k (by decide)), x.kc (fun b (c : b = 69) => by omega)⟩
theorem QO2 {b : Bool} {S' : Sh} (h : XR F D) (p : Pm Z as F (fun r F' => r = some (.int a) ∧ RKX F F' ∧ HKX b F' (t_m (dT D)) (dn D) (dH D) (dS D) ∧ XS F' (t_m (dT D)) S')) : Pm Z as F (fun r F' => r = some (.int a) ∧ XR F' (dK b S' D) ∧ KC F F') := p.imp fun r F' q => ⟨q.1, by
    have k := q.2.2.1
    have z := h.st q.2.1.1 (fun b (c : b = 69 ∨ b = 71 ∨ b = 77 ∨ b = 78) => by omega) (fun k hk => q.2.1.2.2 k (Or.inl hk)) q.2.2.2 (n' := if b = true then m_kn (dn D) else dn D) (H' := if b = true then m_kH (dn D) (dH D) (dS D) else dH D) (by
      cases b with
      | false => exact k
      | true => exact k)
    exact z, q.2.1.1.kc (fun b (c : b = 69 ∨ b = 71 ∨ b = 77 ∨ b = 78) => by omega)⟩
end OPS
