set_option maxRecDepth 100000 in
set_option maxHeartbeats 4000000 in
theorem fs_rtext {F : FW} {u : Nat} (hG : GW F) (hO : O3 F u) : Pm Z_X5_readText [.ref u, .ref 3] F (fun v F' => v = none ∧ FSX u F F') := by
  refine Pm.of fun N => ?_
  obtain ⟨Q, hQ⟩ : ∃ Q : Option Value → FW → Prop, Q = (fun v F' => v = none ∧ FSX u F F') := ⟨_, rfl⟩
  rw [← hQ]
  refine (show Pv (ab_T (L_X5_readText Z_X9_step Z_X5_readCond_1 Z_X9_fail)) N 0 [some (.ref u), some (.ref 3)] [] F Q from ?_)
  refine Pv.aload rfl rfl ?_
  refine Pv.lit rfl ?_
  refine Pv.putI rfl rfl ?_
  refine Pv.aload rfl rfl ?_
  refine Pv.lit rfl ?_
  refine Pv.putI rfl rfl ?_
  refine Pv.aload rfl rfl ?_
  refine Pv.callV (as := [.ref 3]) (rest := []) rfl rfl rfl (fs_step ((((FSX.rf (u := u) (F := F)).pu).pu).G hG)) ?_
  rintro _ G1 ⟨rfl, x2⟩
  refine (show Pv _ _ 14 [some (.ref u), some (.ref 3)] [] G1 Q from ?_)
  refine Pv.aload rfl rfl ?_
  refine Pv.aload rfl rfl ?_
  refine Pv.aload rfl rfl ?_
  refine Pv.lit rfl ?_
  refine Pv.callV (as := [.ref u, .ref 3, .int 1]) (rest := [.ref u]) rfl rfl rfl (fz_readCond_1 u _ 1 (((((FSX.rf (u := u) (F := F)).pu).pu).tr (FSX.of x2)).G hG) (((((FSX.rf (u := u) (F := F)).pu).pu).tr (FSX.of x2)).O hO)) ?_
  rintro _ G3 ⟨⟨z5, rfl⟩, x4⟩
  refine (show Pv _ _ 21 [some (.ref u), some (.ref 3)] [.int z5, .ref u] G3 Q from ?_)
  refine Pv.if0 rfl (fun c6 => ?_) (fun c6 => ?_)
  · skip
    replace c6 := of_decide_eq_true c6
    refine Pv.lit rfl ?_
    refine Pv.putI rfl rfl ?_
    exact Pv.vret rfl (by rw [hQ]; exact ⟨rfl, ((((((FSX.rf (u := u) (F := F)).pu).pu).tr (FSX.of x2)).tr x4).pu)⟩)
  · skip
    replace c6 := of_decide_eq_false c6
    refine Pv.aload rfl rfl ?_
    refine Pv.getI (z := G3.1 3 5) rfl rfl (rfl) ?_
    refine Pv.if0 rfl (fun c7 => ?_) (fun c7 => ?_)
    · skip
      replace c7 := of_decide_eq_true c7
      refine Pv.lit rfl ?_
      refine Pv.goto rfl ?_
      refine Pv.putI rfl rfl ?_
      exact Pv.vret rfl (by rw [hQ]; exact ⟨rfl, ((((((FSX.rf (u := u) (F := F)).pu).pu).tr (FSX.of x2)).tr x4).pu)⟩)
    · skip
      replace c7 := of_decide_eq_false c7
      refine Pv.aload rfl rfl ?_
      refine Pv.lit rfl ?_
      refine Pv.callVI (as := [.ref 3, .int 1]) (rest := [.ref u]) (z := 0) rfl rfl rfl (c_fail (c := 1)) ?_
      refine Pv.if0 rfl (fun c8 => ?_) (fun c8 => ?_)
      · skip
        replace c8 := (i_eq (a := 0) (b := 0) (by omega) (by omega)).mp (of_decide_eq_true c8)
        refine Pv.lit rfl ?_
        refine Pv.putI rfl rfl ?_
        exact Pv.vret rfl (by rw [hQ]; exact ⟨rfl, (((((((FSX.rf (u := u) (F := F)).pu).pu).tr (FSX.of x2)).tr x4).p3).pu)⟩)
      · skip
        replace c8 := mt (i_eq (a := 0) (b := 0) (by omega) (by omega)).mpr (of_decide_eq_false c8)
        omega
set_option maxRecDepth 100000 in
set_option maxHeartbeats 4000000 in
theorem o_se14 {F : FW} {p u : Nat} (hG : GW F) (hp : F.2.1 0 15 = .ref p) (hu : F.2.1 0 16 = .ref u) (hO : O3 F u) (N : Nat) : Pv (ab_T (L_X10_sentence Z_X8_moveInto Z_X5_readText)) N 14 [some (.ref 0), none] [] F (fun v F' => ∃ K z, FSX u F K ∧ v = some (.int z) ∧ (F' = fp K 0 18 (K.1 3 9) ∨ F' = fpr (fpr (fp K 0 18 (K.1 3 9)) 0 15 (.ref u)) 0 16 (.ref p))) := by
  obtain ⟨Q, hQ⟩ : ∃ Q : Option Value → FW → Prop, Q = (fun v F' => ∃ K z, FSX u F K ∧ v = some (.int z) ∧ (F' = fp K 0 18 (K.1 3 9) ∨ F' = fpr (fpr (fp K 0 18 (K.1 3 9)) 0 15 (.ref u)) 0 16 (.ref p))) := ⟨_, rfl⟩
  rw [← hQ]
  refine (show Pv (ab_T (L_X10_sentence Z_X8_moveInto Z_X5_readText)) N 14 [some (.ref 0), none] [] F Q from ?_)
  refine Pv.aload rfl rfl ?_
  refine Pv.getR (v := .ref u) rfl rfl (hu) ?_
  refine Pv.aload rfl rfl ?_
  refine Pv.getR (v := .ref 3) rfl rfl (GW.at (a := 0) (k := 1) (b := 3) hG (by decide)) ?_
  refine Pv.callV (as := [.ref u, .ref 3]) (rest := []) rfl rfl rfl (fs_rtext hG hO) ?_
  rintro _ G ⟨rfl, x⟩
  refine (show Pv _ _ 25 [some (.ref 0), none] [] G Q from ?_)
  refine Pv.aload rfl rfl ?_
  refine Pv.aload rfl rfl ?_
  refine Pv.getR (v := .ref 3) rfl rfl (GW.at (a := 0) (k := 1) (b := 3) (x.G hG) (by decide)) ?_
  refine Pv.getI (z := G.1 3 9) rfl rfl (rfl) ?_
  refine Pv.putI rfl rfl ?_
  refine Pv.aload rfl rfl ?_
  refine Pv.getI (z := (fp G 0 18 (G.1 3 9)).1 0 18) rfl rfl (rfl) ?_
  refine Pv.if0 rfl (fun c1 => ?_) (fun c1 => ?_)
  · skip
    replace c1 := of_decide_eq_true c1
    refine Pv.aload rfl rfl ?_
    refine Pv.getR (v := .ref p) rfl rfl ((congrArg (fun z => z 0 15) x.2.2.1).trans hp) ?_
    refine Pv.astore (lo' := [some (.ref 0), some (.ref p)]) rfl rfl ?_
    refine Pv.aload rfl rfl ?_
    refine Pv.aload rfl rfl ?_
    refine Pv.getR (v := .ref u) rfl rfl ((congrArg (fun z => z 0 16) x.2.2.1).trans hu) ?_
    refine Pv.putR rfl rfl (Or.inr ⟨_, rfl⟩) ?_
    refine Pv.aload rfl rfl ?_
    refine Pv.aload rfl rfl ?_
    refine Pv.putR rfl rfl (Or.inr ⟨_, rfl⟩) ?_
    refine Pv.aload rfl rfl ?_
    refine Pv.getR (v := .ref u) rfl rfl ((fpr_ne (Or.inr (by decide))).trans (fpr_eq)) ?_
    refine Pv.getI (z := (fpr (fpr (fp G 0 18 (G.1 3 9)) 0 15 (.ref u)) 0 16 (.ref p)).1 u 4) rfl rfl (rfl) ?_
    exact Pv.ret rfl (by rw [hQ]; exact ⟨G, _, x, rfl, Or.inr rfl⟩)
  · skip
    replace c1 := of_decide_eq_false c1
    refine Pv.lit rfl ?_
    refine Pv.aload rfl rfl ?_
    refine Pv.getR (v := .ref 3) rfl rfl (GW.at (a := 0) (k := 1) (b := 3) (x.G hG) (by decide)) ?_
    refine Pv.getI (z := (fp G 0 18 (G.1 3 9)).1 3 6) rfl rfl (rfl) ?_
    refine Pv.bin (z := (-1) - ((fp G 0 18 (G.1 3 9)).1 3 6)) rfl (rfl) ?_
    exact Pv.ret rfl (by rw [hQ]; exact ⟨G, _, x, rfl, Or.inl rfl⟩)
