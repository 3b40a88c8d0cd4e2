set_option maxRecDepth 100000 in
set_option maxHeartbeats 4000000 in
theorem f_x6_init {F : FW} {p : Nat} (hz : F.2.2.2.1 = p + 1) : Pm Z_X6_init [.ref p] F (fun r F' => r = none ∧ NWF p 7 F F' ∧ OR_ F' p 7) := by
  refine Pm.of fun N => ?_
  obtain ⟨Q, hQ⟩ : ∃ Q : Option Value → FW → Prop, Q = (fun r F' => r = none ∧ NWF p 7 F F' ∧ OR_ F' p 7) := ⟨_, rfl⟩
  rw [← hQ]
  refine (show Pv (ab_T L_X6_init) N 0 [some (.ref p)] [] F Q from ?_)
  refine Pv.aload rfl rfl ?_
  refine Pv.obj rfl ?_
  have w0 : NWF p 0 F F := NWF.rf
  have o0 : OR_ F p 0 := fun j hj => absurd hj (Nat.not_lt_zero j)
  refine Pv.aload rfl rfl ?_
  refine Pv.lit rfl ?_
  refine Pv.newa (k := 12) rfl rfl ?_
  refine Pv.putR rfl rfl (Or.inr ⟨_, rfl⟩) ?_
  have w1 := NWF.st (k := 12) (j := 0) w0
  have o1 := OR_.st (k := 12) w0 hz o0
  generalize fpr (fnw F 12) p 0 (.ref F.2.2.2.1) = G1 at w1 o1 ⊢
  refine Pv.aload rfl rfl ?_
  refine Pv.lit rfl ?_
  refine Pv.newa (k := 12) rfl rfl ?_
  refine Pv.putR rfl rfl (Or.inr ⟨_, rfl⟩) ?_
  have w2 := NWF.st (k := 12) (j := 1) w1
  have o2 := OR_.st (k := 12) w1 hz o1
  generalize fpr (fnw G1 12) p 1 (.ref G1.2.2.2.1) = G2 at w2 o2 ⊢
  refine Pv.aload rfl rfl ?_
  refine Pv.lit rfl ?_
  refine Pv.newa (k := 12) rfl rfl ?_
  refine Pv.putR rfl rfl (Or.inr ⟨_, rfl⟩) ?_
  have w3 := NWF.st (k := 12) (j := 2) w2
  have o3 := OR_.st (k := 12) w2 hz o2
  generalize fpr (fnw G2 12) p 2 (.ref G2.2.2.2.1) = G3 at w3 o3 ⊢
  refine Pv.aload rfl rfl ?_
  refine Pv.lit rfl ?_
  refine Pv.newa (k := 12) rfl rfl ?_
  refine Pv.putR rfl rfl (Or.inr ⟨_, rfl⟩) ?_
  have w4 := NWF.st (k := 12) (j := 3) w3
  have o4 := OR_.st (k := 12) w3 hz o3
  generalize fpr (fnw G3 12) p 3 (.ref G3.2.2.2.1) = G4 at w4 o4 ⊢
  refine Pv.aload rfl rfl ?_
  refine Pv.lit rfl ?_
  refine Pv.newa (k := 8) rfl rfl ?_
  refine Pv.putR rfl rfl (Or.inr ⟨_, rfl⟩) ?_
  have w5 := NWF.st (k := 8) (j := 4) w4
  have o5 := OR_.st (k := 8) w4 hz o4
  generalize fpr (fnw G4 8) p 4 (.ref G4.2.2.2.1) = G5 at w5 o5 ⊢
  refine Pv.aload rfl rfl ?_
  refine Pv.lit rfl ?_
  refine Pv.newa (k := 8) rfl rfl ?_
  refine Pv.putR rfl rfl (Or.inr ⟨_, rfl⟩) ?_
  have w6 := NWF.st (k := 8) (j := 5) w5
  have o6 := OR_.st (k := 8) w5 hz o5
  generalize fpr (fnw G5 8) p 5 (.ref G5.2.2.2.1) = G6 at w6 o6 ⊢
  refine Pv.aload rfl rfl ?_
  refine Pv.lit rfl ?_
  refine Pv.newa (k := 64) rfl rfl ?_
  refine Pv.putR rfl rfl (Or.inr ⟨_, rfl⟩) ?_
  have w7 := NWF.st (k := 64) (j := 6) w6
  have o7 := OR_.st (k := 64) w6 hz o6
  generalize fpr (fnw G6 64) p 6 (.ref G6.2.2.2.1) = G7 at w7 o7 ⊢
  exact Pv.vret rfl (by rw [hQ]; exact ⟨rfl, w7, o7⟩)
set_option maxRecDepth 100000 in
set_option maxHeartbeats 4000000 in
theorem f_x7_init {F : FW} {p : Nat} (hz : F.2.2.2.1 = p + 1) : Pm Z_X7_init [.ref p] F (fun r F' => r = none ∧ NWF p 7 F F' ∧ OR_ F' p 7) := by
  refine Pm.of fun N => ?_
  obtain ⟨Q, hQ⟩ : ∃ Q : Option Value → FW → Prop, Q = (fun r F' => r = none ∧ NWF p 7 F F' ∧ OR_ F' p 7) := ⟨_, rfl⟩
  rw [← hQ]
  refine (show Pv (ab_T L_X7_init) N 0 [some (.ref p)] [] F Q from ?_)
  refine Pv.aload rfl rfl ?_
  refine Pv.obj rfl ?_
  have w0 : NWF p 0 F F := NWF.rf
  have o0 : OR_ F p 0 := fun j hj => absurd hj (Nat.not_lt_zero j)
  refine Pv.aload rfl rfl ?_
  refine Pv.lit rfl ?_
  refine Pv.newl (k := 6) rfl rfl ?_
  refine Pv.putR rfl rfl (Or.inr ⟨_, rfl⟩) ?_
  have w1 := NWF.st (k := 6) (j := 0) w0
  have o1 := OR_.st (k := 6) w0 hz o0
  generalize fpr (fnw F 6) p 0 (.ref F.2.2.2.1) = G1 at w1 o1 ⊢
  refine Pv.aload rfl rfl ?_
  refine Pv.lit rfl ?_
  refine Pv.newl (k := 8) rfl rfl ?_
  refine Pv.putR rfl rfl (Or.inr ⟨_, rfl⟩) ?_
  have w2 := NWF.st (k := 8) (j := 1) w1
  have o2 := OR_.st (k := 8) w1 hz o1
  generalize fpr (fnw G1 8) p 1 (.ref G1.2.2.2.1) = G2 at w2 o2 ⊢
  refine Pv.aload rfl rfl ?_
  refine Pv.lit rfl ?_
  refine Pv.newa (k := 8) rfl rfl ?_
  refine Pv.putR rfl rfl (Or.inr ⟨_, rfl⟩) ?_
  have w3 := NWF.st (k := 8) (j := 2) w2
  have o3 := OR_.st (k := 8) w2 hz o2
  generalize fpr (fnw G2 8) p 2 (.ref G2.2.2.2.1) = G3 at w3 o3 ⊢
  refine Pv.aload rfl rfl ?_
  refine Pv.lit rfl ?_
  refine Pv.newa (k := 48) rfl rfl ?_
  refine Pv.putR rfl rfl (Or.inr ⟨_, rfl⟩) ?_
  have w4 := NWF.st (k := 48) (j := 3) w3
  have o4 := OR_.st (k := 48) w3 hz o3
  generalize fpr (fnw G3 48) p 3 (.ref G3.2.2.2.1) = G4 at w4 o4 ⊢
  refine Pv.aload rfl rfl ?_
  refine Pv.lit rfl ?_
  refine Pv.newa (k := 20) rfl rfl ?_
  refine Pv.putR rfl rfl (Or.inr ⟨_, rfl⟩) ?_
  have w5 := NWF.st (k := 20) (j := 4) w4
  have o5 := OR_.st (k := 20) w4 hz o4
  generalize fpr (fnw G4 20) p 4 (.ref G4.2.2.2.1) = G5 at w5 o5 ⊢
  refine Pv.aload rfl rfl ?_
  refine Pv.lit rfl ?_
  refine Pv.newa (k := 20) rfl rfl ?_
  refine Pv.putR rfl rfl (Or.inr ⟨_, rfl⟩) ?_
  have w6 := NWF.st (k := 20) (j := 5) w5
  have o6 := OR_.st (k := 20) w5 hz o5
  generalize fpr (fnw G5 20) p 5 (.ref G5.2.2.2.1) = G6 at w6 o6 ⊢
  refine Pv.aload rfl rfl ?_
  refine Pv.lit rfl ?_
  refine Pv.newa (k := 20) rfl rfl ?_
  refine Pv.putR rfl rfl (Or.inr ⟨_, rfl⟩) ?_
  have w7 := NWF.st (k := 20) (j := 6) w6
  have o7 := OR_.st (k := 20) w6 hz o6
  generalize fpr (fnw G6 20) p 6 (.ref G6.2.2.2.1) = G7 at w7 o7 ⊢
  refine Pv.aload rfl rfl ?_
  refine Pv.lit rfl ?_
  refine Pv.putI rfl rfl ?_
  exact Pv.vret rfl (by rw [hQ]; exact ⟨rfl, NWF.i w7, o7⟩)
set_option maxRecDepth 100000 in
set_option maxHeartbeats 4000000 in
theorem f_x5_init {F : FW} {p : Nat} (hz : F.2.2.2.1 = p + 1) : Pm Z_X5_init [.ref p] F (fun r F' => r = none ∧ NWF p 3 F F' ∧ OR_ F' p 3) := by
  refine Pm.of fun N => ?_
  obtain ⟨Q, hQ⟩ : ∃ Q : Option Value → FW → Prop, Q = (fun r F' => r = none ∧ NWF p 3 F F' ∧ OR_ F' p 3) := ⟨_, rfl⟩
  rw [← hQ]
  refine (show Pv (ab_T L_X5_init) N 0 [some (.ref p)] [] F Q from ?_)
  refine Pv.aload rfl rfl ?_
  refine Pv.obj rfl ?_
  have w0 : NWF p 0 F F := NWF.rf
  have o0 : OR_ F p 0 := fun j hj => absurd hj (Nat.not_lt_zero j)
  refine Pv.aload rfl rfl ?_
  refine Pv.lit rfl ?_
  refine Pv.newa (k := 40) rfl rfl ?_
  refine Pv.putR rfl rfl (Or.inr ⟨_, rfl⟩) ?_
  have w1 := NWF.st (k := 40) (j := 0) w0
  have o1 := OR_.st (k := 40) w0 hz o0
  generalize fpr (fnw F 40) p 0 (.ref F.2.2.2.1) = G1 at w1 o1 ⊢
  refine Pv.aload rfl rfl ?_
  refine Pv.lit rfl ?_
  refine Pv.newa (k := 40) rfl rfl ?_
  refine Pv.putR rfl rfl (Or.inr ⟨_, rfl⟩) ?_
  have w2 := NWF.st (k := 40) (j := 1) w1
  have o2 := OR_.st (k := 40) w1 hz o1
  generalize fpr (fnw G1 40) p 1 (.ref G1.2.2.2.1) = G2 at w2 o2 ⊢
  refine Pv.aload rfl rfl ?_
  refine Pv.lit rfl ?_
  refine Pv.newa (k := 40) rfl rfl ?_
  refine Pv.putR rfl rfl (Or.inr ⟨_, rfl⟩) ?_
  have w3 := NWF.st (k := 40) (j := 2) w2
  have o3 := OR_.st (k := 40) w2 hz o2
  generalize fpr (fnw G2 40) p 2 (.ref G2.2.2.2.1) = G3 at w3 o3 ⊢
  exact Pv.vret rfl (by rw [hQ]; exact ⟨rfl, w3, o3⟩)
