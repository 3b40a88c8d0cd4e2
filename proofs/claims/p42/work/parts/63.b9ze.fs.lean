/-! ===== where a sentence is read: the frame alone ===== -/
def FSX (u : Nat) (F G : FW) : Prop := FX (fun q => q = 3 ∨ (u ≤ q ∧ q ≤ u + 3)) F G
theorem FSX.rf {u : Nat} {F : FW} : FSX u F F := FX.rf
theorem FSX.tr {u : Nat} {F G K : FW} (a : FSX u F G) (b : FSX u G K) : FSX u F K := FX.tr a b
theorem FSX.of {u : Nat} {F G : FW} (x : FX (fun q => q = 3) F G) : FSX u F G := x.wd fun _ h => Or.inl h
theorem FSX.ou {u : Nat} {F G : FW} (x : FX (fun q => u ≤ q ∧ q ≤ u + 3) F G) : FSX u F G := x.wd fun _ h => Or.inr h
theorem FSX.p3 {u k : Nat} {v : Int32} {F G : FW} (x : FSX u F G) : FSX u F (fp G 3 k v) := FX.fp x (Or.inl rfl)
theorem FSX.pu {u k : Nat} {v : Int32} {F G : FW} (x : FSX u F G) : FSX u F (fp G u k v) := FX.fp x (Or.inr ⟨Nat.le_refl _, Nat.le_add_right _ _⟩)
theorem FSX.G {u : Nat} {F G : FW} (x : FSX u F G) (g : GW F) : GW G := g.fx x
theorem FSX.O {u : Nat} {F G : FW} (x : FSX u F G) (o : O3 F u) : O3 G u := FX.O3 x o
/-- a reader that keeps to its places -/
def FSP (X : List Value → ab_H → Option ab_O) : Prop := ∀ (u : Nat) (F : FW) (w : Int32), GW F → O3 F u → Pm X [.ref u, .ref 3, .int w] F (fun v F' => (∃ z, v = some (.int z)) ∧ FSX u F F')
theorem fsp_no : FSP ab_no0 := fun u F w _ _ hp o _ _ e => by cases e
