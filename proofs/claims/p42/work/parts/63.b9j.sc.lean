theorem LCQ.i {F G : FW} {T : Nat → TT} {m r : Nat} {v : Option Value} {x : LR} (h : LCQ F G T m r v x) : ∃ z, v = some (.int z) := by
  obtain ⟨-, h⟩ := h
  cases x with
  | inl y => exact ⟨1, h.1⟩
  | inr y => exact ⟨0, h.1⟩
theorem LCQ.y {F G : FW} {T : Nat → TT} {m r : Nat} {z : Int32} {x : LR} (h : LCQ F G T m r (some (.int z)) x) (hz : ¬ z = 0) : ∃ s j, x = LR.ok s j ∧ CSX r F G ∧ G.1 3 4 = Int32.ofNat j ∧ G.1 3 9 = F.1 3 9 ∧ SCF G r s ∧ j < m := by
  obtain ⟨h0, h⟩ := h
  cases x with
  | inl y => exact ⟨y.1, y.2, rfl, h0, h.2⟩
  | inr y => exact absurd (Value.int.inj (Option.some.inj h.1)) hz
theorem LCQ.n {F G : FW} {T : Nat → TT} {m r : Nat} {z : Int32} {x : LR} (h : LCQ F G T m r (some (.int z)) x) (hz : z = 0) : ∃ f j, x = LR.bad f j ∧ CSX r F G ∧ (G.1 3 9).toInt = f ∧ CURF G (T j) := by
  obtain ⟨h0, h⟩ := h
  cases x with
  | inl y =>
    have e := Value.int.inj (Option.some.inj h.1)
    rw [hz] at e
    exact absurd e (by decide)
  | inr y => exact ⟨y.1, y.2, rfl, h0, h.2⟩
