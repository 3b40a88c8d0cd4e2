/-! ===== a new image ===== -/
set_option maxRecDepth 100000 in
set_option maxHeartbeats 4000000 in
theorem f_x3_init {F : FW} {p : Nat} (hz : F.2.2.2.1 = p + 1) : Pm Z_X3_init [.ref p] F (fun r F' => r = none ∧ FRZ (fun q => q = p) F F' ∧ F'.2.2.2.1 = p + 21 ∧ O3i F' p ∧ O7 F' (p + 1) ∧ O7 F' (p + 9) ∧ O3 F' (p + 17)) := by
  refine Pm.of fun N => ?_
  obtain ⟨Q, hQ⟩ : ∃ Q : Option Value → FW → Prop, Q = (fun r F' => r = none ∧ FRZ (fun q => q = p) F F' ∧ F'.2.2.2.1 = p + 21 ∧ O3i F' p ∧ O7 F' (p + 1) ∧ O7 F' (p + 9) ∧ O3 F' (p + 17)) := ⟨_, rfl⟩
  rw [← hQ]
  refine (show Pv (ab_T (L_X3_init Z_X7_init Z_X6_init Z_X5_init)) N 0 [some (.ref p)] [] F Q from ?_)
  refine Pv.aload rfl rfl ?_
  refine Pv.obj rfl ?_
  refine Pv.aload rfl rfl ?_
  refine Pv.new rfl (by decide) (by decide) ?_
  rw [hz]
  refine (show Pv _ _ 8 [some (.ref p)] [.ref (p + 1), .ref p] (fnw F 0) Q from ?_)
  refine Pv.dup rfl ?_
  refine Pv.call (as := [.ref (p + 1)]) (rest := [.ref (p + 1), .ref p]) rfl rfl rfl (f_x7_init (F := fnw F 0) (p := p + 1) (by show F.2.2.2.1 + 1 = _; rw [hz])) ?_
  rintro _ G1 ⟨rfl, w1, o1⟩
  have z1 : G1.2.2.2.1 = p + 9 := by rw [w1.1]; show F.2.2.2.1 + 1 + 7 = _; omega
  refine (show Pv _ _ 12 [some (.ref p)] [.ref (p + 1), .ref p] G1 Q from ?_)
  refine Pv.putR rfl rfl (Or.inr ⟨_, rfl⟩) ?_
  obtain ⟨H1, e1⟩ : ∃ H1, H1 = fpr G1 p 0 (.ref (p + 1)) := ⟨_, rfl⟩
  rw [← e1]
  have y1 : H1.2.2.2.1 = p + 9 := by rw [e1]; exact z1
  have f1 : FRZ (fun q => q = p) F H1 := by
    rw [e1]
    refine ⟨by show _ ≤ G1.2.2.2.1; omega, fun a ha c => ?_⟩
    obtain ⟨h1, h2, h3, -⟩ := w1.2 a (by show a < F.2.2.2.1 + 1; omega) (by omega)
    exact ⟨fun k => (h1 k).trans (if_neg (by omega)), fun k => (fpr_ne (Or.inl c)).trans ((h2 k).trans (if_neg (by omega))), fun k => (h3 k).trans (if_neg (by omega))⟩
  have r1 : H1.2.1 p 0 = .ref (p + 1) := by rw [e1]; exact fpr_eq
  have q1 : O7 H1 (p + 1) := fun j hj => by rw [e1]; exact (fpr_ne (Or.inl (by omega))).trans (o1 j hj)
  refine Pv.aload rfl rfl ?_
  refine Pv.new rfl (by decide) (by decide) ?_
  rw [y1]
  refine (show Pv _ _ 19 [some (.ref p)] [.ref (p + 9), .ref p] (fnw H1 0) Q from ?_)
  refine Pv.dup rfl ?_
  refine Pv.call (as := [.ref (p + 9)]) (rest := [.ref (p + 9), .ref p]) rfl rfl rfl (f_x6_init (F := fnw H1 0) (p := p + 9) (by show H1.2.2.2.1 + 1 = _; rw [y1])) ?_
  rintro _ G2 ⟨rfl, w2, o2⟩
  have z2 : G2.2.2.2.1 = p + 17 := by rw [w2.1]; show H1.2.2.2.1 + 1 + 7 = _; omega
  refine (show Pv _ _ 23 [some (.ref p)] [.ref (p + 9), .ref p] G2 Q from ?_)
  refine Pv.putR rfl rfl (Or.inr ⟨_, rfl⟩) ?_
  obtain ⟨H2, e2⟩ : ∃ H2, H2 = fpr G2 p 1 (.ref (p + 9)) := ⟨_, rfl⟩
  rw [← e2]
  have y2 : H2.2.2.2.1 = p + 17 := by rw [e2]; exact z2
  have f2 : FRZ (fun q => q = p) H1 H2 := by
    rw [e2]
    refine ⟨by show _ ≤ G2.2.2.2.1; omega, fun a ha c => ?_⟩
    obtain ⟨h1, h2, h3, -⟩ := w2.2 a (by show a < H1.2.2.2.1 + 1; omega) (by omega)
    exact ⟨fun k => (h1 k).trans (if_neg (by omega)), fun k => (fpr_ne (Or.inl c)).trans ((h2 k).trans (if_neg (by omega))), fun k => (h3 k).trans (if_neg (by omega))⟩
  have r2 : H2.2.1 p 0 = .ref (p + 1) ∧ H2.2.1 p 1 = .ref (p + 9) := by
    obtain ⟨-, h2, -, -⟩ := w2.2 p (by show p < H1.2.2.2.1 + 1; omega) (by omega)
    rw [e2]
    exact ⟨(fpr_ne (Or.inr (by decide))).trans ((h2 0).trans ((if_neg (by omega)).trans r1)), fpr_eq⟩
  have q2 : O7 H2 (p + 9) := fun j hj => by rw [e2]; exact (fpr_ne (Or.inl (by omega))).trans (o2 j hj)
  refine Pv.aload rfl rfl ?_
  refine Pv.new rfl (by decide) (by decide) ?_
  rw [y2]
  refine (show Pv _ _ 30 [some (.ref p)] [.ref (p + 17), .ref p] (fnw H2 0) Q from ?_)
  refine Pv.dup rfl ?_
  refine Pv.call (as := [.ref (p + 17)]) (rest := [.ref (p + 17), .ref p]) rfl rfl rfl (f_x5_init (F := fnw H2 0) (p := p + 17) (by show H2.2.2.2.1 + 1 = _; rw [y2])) ?_
  rintro _ G3 ⟨rfl, w3, o3⟩
  have z3 : G3.2.2.2.1 = p + 21 := by rw [w3.1]; show H2.2.2.2.1 + 1 + 3 = _; omega
  refine (show Pv _ _ 34 [some (.ref p)] [.ref (p + 17), .ref p] G3 Q from ?_)
  refine Pv.putR rfl rfl (Or.inr ⟨_, rfl⟩) ?_
  obtain ⟨H3, e3⟩ : ∃ H3, H3 = fpr G3 p 2 (.ref (p + 17)) := ⟨_, rfl⟩
  rw [← e3]
  have y3 : H3.2.2.2.1 = p + 21 := by rw [e3]; exact z3
  have f3 : FRZ (fun q => q = p) H2 H3 := by
    rw [e3]
    refine ⟨by show _ ≤ G3.2.2.2.1; omega, fun a ha c => ?_⟩
    obtain ⟨h1, h2, h3, -⟩ := w3.2 a (by show a < H2.2.2.2.1 + 1; omega) (by omega)
    exact ⟨fun k => (h1 k).trans (if_neg (by omega)), fun k => (fpr_ne (Or.inl c)).trans ((h2 k).trans (if_neg (by omega))), fun k => (h3 k).trans (if_neg (by omega))⟩
  have r3 : O3i H3 p := by
    obtain ⟨-, h2, -, -⟩ := w3.2 p (by show p < H2.2.2.2.1 + 1; omega) (by omega)
    rw [e3]
    exact ⟨(fpr_ne (Or.inr (by decide))).trans ((h2 0).trans ((if_neg (by omega)).trans r2.1)), (fpr_ne (Or.inr (by decide))).trans ((h2 1).trans ((if_neg (by omega)).trans r2.2)), fpr_eq⟩
  have q3 : O3 H3 (p + 17) := fun j hj => by rw [e3]; exact (fpr_ne (Or.inl (by omega))).trans (o3 j hj)
  refine Pv.vret rfl ?_
  rw [hQ]
  refine ⟨rfl, (f1.tr f2).tr f3, y3, r3, fun j hj => ?_, fun j hj => ?_, q3⟩
  · exact ((f3.2 (p + 1) (by omega) (by omega)).2.1 j).trans (((f2.2 (p + 1) (by omega) (by omega)).2.1 j).trans (q1 j hj))
  · exact ((f3.2 (p + 9) (by omega) (by omega)).2.1 j).trans (q2 j hj)
