def CTQ (F F' : FW) (K : Nat → TT) (r : Nat) (v : Option Value) : Prop := CSX r F F' ∧ ∃ l i s, lns K l = some (s, i) ∧ ((stp K l s i = some ((l : Int), 0) ∧ v = some (.int (Int32.ofNat l)) ∧ SCF F' r s ∧ F'.1 3 9 = 0) ∨ (∃ f j z, v = some (.int z) ∧ stp K l s i = some (-1 - (K j).pl, f) ∧ f ≠ 0 ∧ (F'.1 3 9).toInt = f ∧ CURF F' (K j)))
theorem CTQ.i {F F' : FW} {K : Nat → TT} {r : Nat} {v : Option Value} (h : CTQ F F' K r v) : ∃ z, v = some (.int z) := by
  obtain ⟨-, l, i, s, -, h | ⟨f, j, z, h, -⟩⟩ := h
  · exact ⟨_, h.2.1⟩
  · exact ⟨z, h⟩
theorem CSX.o8 {r : Nat} {F G : FW} (x : FX (fun q => r ≤ q ∧ q ≤ r + 7) F G) (hr : 40 ≤ r) : CSX r F G := ⟨x.wd fun q h => Or.inr h, fun k _ _ _ _ _ => x.1 3 k (by omega), fun k _ => x.2.1 3 k (by omega)⟩
