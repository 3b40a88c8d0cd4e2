theorem c32_inj : ∀ {f : Nat} {v w : Int}, LW f v → LW f w → c32 f v = c32 f w → v = w
  | 0, v, w, hv, hw, _ => hv.trans hw.symm
  | f + 1, v, w, hv, hw, e => by
    have e' : c32 f (v / 256) * 32 + dg (v % 256) = c32 f (w / 256) * 32 + dg (w % 256) := e
    have a1 := hv.2.1
    have a2 := hw.2.1
    have dv : 0 ≤ dg (v % 256) ∧ dg (v % 256) ≤ 26 := by
      unfold dg
      split <;> omega
    have dw : 0 ≤ dg (w % 256) ∧ dg (w % 256) ≤ 26 := by
      unfold dg
      split <;> omega
    have h1 : c32 f (v / 256) = c32 f (w / 256) := by omega
    have h2 := c32_inj hv.1 hw.1 h1
    have h3 : dg (v % 256) = dg (w % 256) := by omega
    have h4 : v % 256 = w % 256 := by
      unfold dg at h3
      split at h3 <;> split at h3 <;> omega
    omega
abbrev PS : Type := (Nat → Int) × (Nat → Int) × Bool × (Nat → Bool)
def PS.h (s : PS) : Nat → Int := s.1
abbrev LR : Type := (PS × Nat) ⊕ (Int × Nat)
abbrev LR.bad (f : Int) (i : Nat) : LR := Sum.inr (f, i)
