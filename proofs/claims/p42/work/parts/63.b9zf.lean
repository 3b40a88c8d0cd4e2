set_option maxRecDepth 100000 in
set_option maxHeartbeats 4000000 in
theorem fs_step {F : FW} (hG : GW F) : Pm Z_X9_step [.ref 3] F (fun v F' => v = none ∧ FX (fun q => q = 3) F F') := by
  refine Pm.of fun N => ?_
  obtain ⟨Q, hQ⟩ : ∃ Q : Option Value → FW → Prop, Q = (fun v F' => v = none ∧ FX (fun q => q = 3) F F') := ⟨_, rfl⟩
  rw [← hQ]
  refine (show Pv (ab_T L_X9_step) N 0 [some (.ref 3)] [] F Q from ?_)
  refine Pv.aload rfl rfl ?_
  refine Pv.getI (z := F.1 3 4) rfl rfl (rfl) ?_
  refine Pv.aload rfl rfl ?_
  refine Pv.getI (z := F.1 3 3) rfl rfl (rfl) ?_
  refine Pv.icmp rfl (fun c1 => ?_) (fun c1 => ?_)
  · skip
    replace c1 := of_decide_eq_true c1
    exact Pv.vret rfl (by rw [hQ]; exact ⟨rfl, (FX.rf (P := fun q => q = 3) (F := F))⟩)
  · skip
    replace c1 := of_decide_eq_false c1
    refine Pv.aload rfl rfl ?_
    refine Pv.getI (z := F.1 3 4) rfl rfl (rfl) ?_
    refine Pv.lit rfl ?_
    refine Pv.icmp rfl (fun c2 => ?_) (fun c2 => ?_)
    · skip
      replace c2 := of_decide_eq_true c2
      exact Pv.vret rfl (by rw [hQ]; exact ⟨rfl, (FX.rf (P := fun q => q = 3) (F := F))⟩)
    · skip
      replace c2 := of_decide_eq_false c2
      refine Pv.aload rfl rfl ?_
      refine Pv.aload rfl rfl ?_
      refine Pv.getR (v := .ref 4) rfl rfl (GW.at (a := 3) (k := 0) (b := 4) hG (by decide)) ?_
      refine Pv.aload rfl rfl ?_
      refine Pv.getI (z := F.1 3 4) rfl rfl (rfl) ?_
      refine Pv.ald (z := F.1 4 (F.1 3 4).toNatClampNeg) rfl rfl ?_
      refine Pv.putI rfl rfl ?_
      refine Pv.aload rfl rfl ?_
      refine Pv.aload rfl rfl ?_
      refine Pv.getR (v := .ref 5) rfl rfl (GW.at (a := 3) (k := 1) (b := 5) hG (by decide)) ?_
      refine Pv.aload rfl rfl ?_
      refine Pv.getI (z := (fp F 3 5 (F.1 4 (F.1 3 4).toNatClampNeg)).1 3 4) rfl rfl (rfl) ?_
      refine Pv.ald (z := (fp F 3 5 (F.1 4 (F.1 3 4).toNatClampNeg)).1 5 ((fp F 3 5 (F.1 4 (F.1 3 4).toNatClampNeg)).1 3 4).toNatClampNeg) rfl rfl ?_
      refine Pv.putI rfl rfl ?_
      refine Pv.aload rfl rfl ?_
      refine Pv.aload rfl rfl ?_
      refine Pv.getR (v := .ref 6) rfl rfl (GW.at (a := 3) (k := 2) (b := 6) hG (by decide)) ?_
      refine Pv.aload rfl rfl ?_
      refine Pv.getI (z := (fp (fp F 3 5 (F.1 4 (F.1 3 4).toNatClampNeg)) 3 6 ((fp F 3 5 (F.1 4 (F.1 3 4).toNatClampNeg)).1 5 ((fp F 3 5 (F.1 4 (F.1 3 4).toNatClampNeg)).1 3 4).toNatClampNeg)).1 3 4) rfl rfl (rfl) ?_
      refine Pv.lald (z := (fp (fp F 3 5 (F.1 4 (F.1 3 4).toNatClampNeg)) 3 6 ((fp F 3 5 (F.1 4 (F.1 3 4).toNatClampNeg)).1 5 ((fp F 3 5 (F.1 4 (F.1 3 4).toNatClampNeg)).1 3 4).toNatClampNeg)).2.2.1 6 ((fp (fp F 3 5 (F.1 4 (F.1 3 4).toNatClampNeg)) 3 6 ((fp F 3 5 (F.1 4 (F.1 3 4).toNatClampNeg)).1 5 ((fp F 3 5 (F.1 4 (F.1 3 4).toNatClampNeg)).1 3 4).toNatClampNeg)).1 3 4).toNatClampNeg) rfl rfl ?_
      refine Pv.putL rfl rfl ?_
      refine Pv.aload rfl rfl ?_
      refine Pv.aload rfl rfl ?_
      refine Pv.getR (v := .ref 6) rfl rfl (GW.at (a := 3) (k := 2) (b := 6) hG (by decide)) ?_
      refine Pv.aload rfl rfl ?_
      refine Pv.getI (z := (fpl (fp (fp F 3 5 (F.1 4 (F.1 3 4).toNatClampNeg)) 3 6 ((fp F 3 5 (F.1 4 (F.1 3 4).toNatClampNeg)).1 5 ((fp F 3 5 (F.1 4 (F.1 3 4).toNatClampNeg)).1 3 4).toNatClampNeg)) 3 8 ((fp (fp F 3 5 (F.1 4 (F.1 3 4).toNatClampNeg)) 3 6 ((fp F 3 5 (F.1 4 (F.1 3 4).toNatClampNeg)).1 5 ((fp F 3 5 (F.1 4 (F.1 3 4).toNatClampNeg)).1 3 4).toNatClampNeg)).2.2.1 6 ((fp (fp F 3 5 (F.1 4 (F.1 3 4).toNatClampNeg)) 3 6 ((fp F 3 5 (F.1 4 (F.1 3 4).toNatClampNeg)).1 5 ((fp F 3 5 (F.1 4 (F.1 3 4).toNatClampNeg)).1 3 4).toNatClampNeg)).1 3 4).toNatClampNeg)).1 3 4) rfl rfl (rfl) ?_
      refine Pv.lald (z := (fpl (fp (fp F 3 5 (F.1 4 (F.1 3 4).toNatClampNeg)) 3 6 ((fp F 3 5 (F.1 4 (F.1 3 4).toNatClampNeg)).1 5 ((fp F 3 5 (F.1 4 (F.1 3 4).toNatClampNeg)).1 3 4).toNatClampNeg)) 3 8 ((fp (fp F 3 5 (F.1 4 (F.1 3 4).toNatClampNeg)) 3 6 ((fp F 3 5 (F.1 4 (F.1 3 4).toNatClampNeg)).1 5 ((fp F 3 5 (F.1 4 (F.1 3 4).toNatClampNeg)).1 3 4).toNatClampNeg)).2.2.1 6 ((fp (fp F 3 5 (F.1 4 (F.1 3 4).toNatClampNeg)) 3 6 ((fp F 3 5 (F.1 4 (F.1 3 4).toNatClampNeg)).1 5 ((fp F 3 5 (F.1 4 (F.1 3 4).toNatClampNeg)).1 3 4).toNatClampNeg)).1 3 4).toNatClampNeg)).2.2.1 6 ((fpl (fp (fp F 3 5 (F.1 4 (F.1 3 4).toNatClampNeg)) 3 6 ((fp F 3 5 (F.1 4 (F.1 3 4).toNatClampNeg)).1 5 ((fp F 3 5 (F.1 4 (F.1 3 4).toNatClampNeg)).1 3 4).toNatClampNeg)) 3 8 ((fp (fp F 3 5 (F.1 4 (F.1 3 4).toNatClampNeg)) 3 6 ((fp F 3 5 (F.1 4 (F.1 3 4).toNatClampNeg)).1 5 ((fp F 3 5 (F.1 4 (F.1 3 4).toNatClampNeg)).1 3 4).toNatClampNeg)).2.2.1 6 ((fp (fp F 3 5 (F.1 4 (F.1 3 4).toNatClampNeg)) 3 6 ((fp F 3 5 (F.1 4 (F.1 3 4).toNatClampNeg)).1 5 ((fp F 3 5 (F.1 4 (F.1 3 4).toNatClampNeg)).1 3 4).toNatClampNeg)).1 3 4).toNatClampNeg)).1 3 4).toNatClampNeg) rfl rfl ?_
      refine Pv.l2i (z := Int64.toInt32 ((fpl (fp (fp F 3 5 (F.1 4 (F.1 3 4).toNatClampNeg)) 3 6 ((fp F 3 5 (F.1 4 (F.1 3 4).toNatClampNeg)).1 5 ((fp F 3 5 (F.1 4 (F.1 3 4).toNatClampNeg)).1 3 4).toNatClampNeg)) 3 8 ((fp (fp F 3 5 (F.1 4 (F.1 3 4).toNatClampNeg)) 3 6 ((fp F 3 5 (F.1 4 (F.1 3 4).toNatClampNeg)).1 5 ((fp F 3 5 (F.1 4 (F.1 3 4).toNatClampNeg)).1 3 4).toNatClampNeg)).2.2.1 6 ((fp (fp F 3 5 (F.1 4 (F.1 3 4).toNatClampNeg)) 3 6 ((fp F 3 5 (F.1 4 (F.1 3 4).toNatClampNeg)).1 5 ((fp F 3 5 (F.1 4 (F.1 3 4).toNatClampNeg)).1 3 4).toNatClampNeg)).1 3 4).toNatClampNeg)).2.2.1 6 ((fpl (fp (fp F 3 5 (F.1 4 (F.1 3 4).toNatClampNeg)) 3 6 ((fp F 3 5 (F.1 4 (F.1 3 4).toNatClampNeg)).1 5 ((fp F 3 5 (F.1 4 (F.1 3 4).toNatClampNeg)).1 3 4).toNatClampNeg)) 3 8 ((fp (fp F 3 5 (F.1 4 (F.1 3 4).toNatClampNeg)) 3 6 ((fp F 3 5 (F.1 4 (F.1 3 4).toNatClampNeg)).1 5 ((fp F 3 5 (F.1 4 (F.1 3 4).toNatClampNeg)).1 3 4).toNatClampNeg)).2.2.1 6 ((fp (fp F 3 5 (F.1 4 (F.1 3 4).toNatClampNeg)) 3 6 ((fp F 3 5 (F.1 4 (F.1 3 4).toNatClampNeg)).1 5 ((fp F 3 5 (F.1 4 (F.1 3 4).toNatClampNeg)).1 3 4).toNatClampNeg)).1 3 4).toNatClampNeg)).1 3 4).toNatClampNeg)) rfl (rfl) ?_
      refine Pv.putI rfl rfl ?_
      refine Pv.aload rfl rfl ?_
      refine Pv.dup rfl ?_
      refine Pv.getI (z := (fp (fpl (fp (fp F 3 5 (F.1 4 (F.1 3 4).toNatClampNeg)) 3 6 ((fp F 3 5 (F.1 4 (F.1 3 4).toNatClampNeg)).1 5 ((fp F 3 5 (F.1 4 (F.1 3 4).toNatClampNeg)).1 3 4).toNatClampNeg)) 3 8 ((fp (fp F 3 5 (F.1 4 (F.1 3 4).toNatClampNeg)) 3 6 ((fp F 3 5 (F.1 4 (F.1 3 4).toNatClampNeg)).1 5 ((fp F 3 5 (F.1 4 (F.1 3 4).toNatClampNeg)).1 3 4).toNatClampNeg)).2.2.1 6 ((fp (fp F 3 5 (F.1 4 (F.1 3 4).toNatClampNeg)) 3 6 ((fp F 3 5 (F.1 4 (F.1 3 4).toNatClampNeg)).1 5 ((fp F 3 5 (F.1 4 (F.1 3 4).toNatClampNeg)).1 3 4).toNatClampNeg)).1 3 4).toNatClampNeg)) 3 7 (Int64.toInt32 ((fpl (fp (fp F 3 5 (F.1 4 (F.1 3 4).toNatClampNeg)) 3 6 ((fp F 3 5 (F.1 4 (F.1 3 4).toNatClampNeg)).1 5 ((fp F 3 5 (F.1 4 (F.1 3 4).toNatClampNeg)).1 3 4).toNatClampNeg)) 3 8 ((fp (fp F 3 5 (F.1 4 (F.1 3 4).toNatClampNeg)) 3 6 ((fp F 3 5 (F.1 4 (F.1 3 4).toNatClampNeg)).1 5 ((fp F 3 5 (F.1 4 (F.1 3 4).toNatClampNeg)).1 3 4).toNatClampNeg)).2.2.1 6 ((fp (fp F 3 5 (F.1 4 (F.1 3 4).toNatClampNeg)) 3 6 ((fp F 3 5 (F.1 4 (F.1 3 4).toNatClampNeg)).1 5 ((fp F 3 5 (F.1 4 (F.1 3 4).toNatClampNeg)).1 3 4).toNatClampNeg)).1 3 4).toNatClampNeg)).2.2.1 6 ((fpl (fp (fp F 3 5 (F.1 4 (F.1 3 4).toNatClampNeg)) 3 6 ((fp F 3 5 (F.1 4 (F.1 3 4).toNatClampNeg)).1 5 ((fp F 3 5 (F.1 4 (F.1 3 4).toNatClampNeg)).1 3 4).toNatClampNeg)) 3 8 ((fp (fp F 3 5 (F.1 4 (F.1 3 4).toNatClampNeg)) 3 6 ((fp F 3 5 (F.1 4 (F.1 3 4).toNatClampNeg)).1 5 ((fp F 3 5 (F.1 4 (F.1 3 4).toNatClampNeg)).1 3 4).toNatClampNeg)).2.2.1 6 ((fp (fp F 3 5 (F.1 4 (F.1 3 4).toNatClampNeg)) 3 6 ((fp F 3 5 (F.1 4 (F.1 3 4).toNatClampNeg)).1 5 ((fp F 3 5 (F.1 4 (F.1 3 4).toNatClampNeg)).1 3 4).toNatClampNeg)).1 3 4).toNatClampNeg)).1 3 4).toNatClampNeg))).1 3 4) rfl rfl (rfl) ?_
      refine Pv.lit rfl ?_
      refine Pv.bin (z := ((fp (fpl (fp (fp F 3 5 (F.1 4 (F.1 3 4).toNatClampNeg)) 3 6 ((fp F 3 5 (F.1 4 (F.1 3 4).toNatClampNeg)).1 5 ((fp F 3 5 (F.1 4 (F.1 3 4).toNatClampNeg)).1 3 4).toNatClampNeg)) 3 8 ((fp (fp F 3 5 (F.1 4 (F.1 3 4).toNatClampNeg)) 3 6 ((fp F 3 5 (F.1 4 (F.1 3 4).toNatClampNeg)).1 5 ((fp F 3 5 (F.1 4 (F.1 3 4).toNatClampNeg)).1 3 4).toNatClampNeg)).2.2.1 6 ((fp (fp F 3 5 (F.1 4 (F.1 3 4).toNatClampNeg)) 3 6 ((fp F 3 5 (F.1 4 (F.1 3 4).toNatClampNeg)).1 5 ((fp F 3 5 (F.1 4 (F.1 3 4).toNatClampNeg)).1 3 4).toNatClampNeg)).1 3 4).toNatClampNeg)) 3 7 (Int64.toInt32 ((fpl (fp (fp F 3 5 (F.1 4 (F.1 3 4).toNatClampNeg)) 3 6 ((fp F 3 5 (F.1 4 (F.1 3 4).toNatClampNeg)).1 5 ((fp F 3 5 (F.1 4 (F.1 3 4).toNatClampNeg)).1 3 4).toNatClampNeg)) 3 8 ((fp (fp F 3 5 (F.1 4 (F.1 3 4).toNatClampNeg)) 3 6 ((fp F 3 5 (F.1 4 (F.1 3 4).toNatClampNeg)).1 5 ((fp F 3 5 (F.1 4 (F.1 3 4).toNatClampNeg)).1 3 4).toNatClampNeg)).2.2.1 6 ((fp (fp F 3 5 (F.1 4 (F.1 3 4).toNatClampNeg)) 3 6 ((fp F 3 5 (F.1 4 (F.1 3 4).toNatClampNeg)).1 5 ((fp F 3 5 (F.1 4 (F.1 3 4).toNatClampNeg)).1 3 4).toNatClampNeg)).1 3 4).toNatClampNeg)).2.2.1 6 ((fpl (fp (fp F 3 5 (F.1 4 (F.1 3 4).toNatClampNeg)) 3 6 ((fp F 3 5 (F.1 4 (F.1 3 4).toNatClampNeg)).1 5 ((fp F 3 5 (F.1 4 (F.1 3 4).toNatClampNeg)).1 3 4).toNatClampNeg)) 3 8 ((fp (fp F 3 5 (F.1 4 (F.1 3 4).toNatClampNeg)) 3 6 ((fp F 3 5 (F.1 4 (F.1 3 4).toNatClampNeg)).1 5 ((fp F 3 5 (F.1 4 (F.1 3 4).toNatClampNeg)).1 3 4).toNatClampNeg)).2.2.1 6 ((fp (fp F 3 5 (F.1 4 (F.1 3 4).toNatClampNeg)) 3 6 ((fp F 3 5 (F.1 4 (F.1 3 4).toNatClampNeg)).1 5 ((fp F 3 5 (F.1 4 (F.1 3 4).toNatClampNeg)).1 3 4).toNatClampNeg)).1 3 4).toNatClampNeg)).1 3 4).toNatClampNeg))).1 3 4) + 1) rfl (rfl) ?_
      refine Pv.putI rfl rfl ?_
      exact Pv.vret rfl (by rw [hQ]; exact ⟨rfl, ((((((FX.rf (P := fun q => q = 3) (F := F)).fp rfl).fp rfl).fpl rfl).fp rfl).fp rfl)⟩)
set_option maxRecDepth 100000 in
set_option maxHeartbeats 4000000 in
theorem fs_num {F : FW} (hG : GW F) (lo hi : Int32) : Pm Z_X9_takeNumber [.ref 3, .int lo, .int hi] F (fun v F' => (∃ z, v = some (.int z)) ∧ FX (fun q => q = 3) F F') := by
  refine Pm.of fun N => ?_
  obtain ⟨Q, hQ⟩ : ∃ Q : Option Value → FW → Prop, Q = (fun v F' => (∃ z, v = some (.int z)) ∧ FX (fun q => q = 3) F F') := ⟨_, rfl⟩
  rw [← hQ]
  refine (show Pv (ab_T (L_X9_takeNumber Z_X9_step Z_X9_fail)) N 0 [some (.ref 3), some (.int lo), some (.int hi)] [] F Q from ?_)
  refine Pv.aload rfl rfl ?_
  refine Pv.callV (as := [.ref 3]) (rest := []) rfl rfl rfl (fs_step hG) ?_
  rintro _ G1 ⟨rfl, x2⟩
  refine (show Pv _ _ 4 [some (.ref 3), some (.int lo), some (.int hi)] [] G1 Q from ?_)
  refine Pv.aload rfl rfl ?_
  refine Pv.getI (z := G1.1 3 5) rfl rfl (rfl) ?_
  refine Pv.lit rfl ?_
  refine Pv.icmp rfl (fun c3 => ?_) (fun c3 => ?_)
  · skip
    replace c3 := of_decide_eq_true c3
    refine Pv.aload rfl rfl ?_
    refine Pv.getI (z := G1.1 3 7) rfl rfl (rfl) ?_
    refine Pv.iload rfl rfl ?_
    refine Pv.icmp rfl (fun c4 => ?_) (fun c4 => ?_)
    · skip
      replace c4 := of_decide_eq_true c4
      refine Pv.aload rfl rfl ?_
      refine Pv.lit rfl ?_
      refine Pv.callVI (as := [.ref 3, .int 2]) (rest := []) (z := 0) rfl rfl rfl (c_fail (c := 2)) ?_
      refine Pv.if0 rfl (fun c5 => ?_) (fun c5 => ?_)
      · skip
        replace c5 := (i_eq (a := 0) (b := 0) (by omega) (by omega)).mp (of_decide_eq_true c5)
        refine Pv.lit rfl ?_
        exact Pv.zret rfl (by rw [hQ]; exact ⟨⟨_, rfl⟩, (((FX.rf (P := fun q => q = 3) (F := F)).tr x2).fp rfl)⟩)
      · skip
        replace c5 := mt (i_eq (a := 0) (b := 0) (by omega) (by omega)).mpr (of_decide_eq_false c5)
        omega
    · skip
      replace c4 := of_decide_eq_false c4
      refine Pv.aload rfl rfl ?_
      refine Pv.getI (z := G1.1 3 7) rfl rfl (rfl) ?_
      refine Pv.iload rfl rfl ?_
      refine Pv.icmp rfl (fun c6 => ?_) (fun c6 => ?_)
      · skip
        replace c6 := of_decide_eq_true c6
        refine Pv.lit rfl ?_
        refine Pv.goto rfl ?_
        exact Pv.zret rfl (by rw [hQ]; exact ⟨⟨_, rfl⟩, ((FX.rf (P := fun q => q = 3) (F := F)).tr x2)⟩)
      · skip
        replace c6 := of_decide_eq_false c6
        refine Pv.aload rfl rfl ?_
        refine Pv.lit rfl ?_
        refine Pv.callVI (as := [.ref 3, .int 2]) (rest := []) (z := 0) rfl rfl rfl (c_fail (c := 2)) ?_
        refine Pv.if0 rfl (fun c7 => ?_) (fun c7 => ?_)
        · skip
          replace c7 := (i_eq (a := 0) (b := 0) (by omega) (by omega)).mp (of_decide_eq_true c7)
          refine Pv.lit rfl ?_
          exact Pv.zret rfl (by rw [hQ]; exact ⟨⟨_, rfl⟩, (((FX.rf (P := fun q => q = 3) (F := F)).tr x2).fp rfl)⟩)
        · skip
          replace c7 := mt (i_eq (a := 0) (b := 0) (by omega) (by omega)).mpr (of_decide_eq_false c7)
          omega
  · skip
    replace c3 := of_decide_eq_false c3
    refine Pv.aload rfl rfl ?_
    refine Pv.lit rfl ?_
    refine Pv.callVI (as := [.ref 3, .int 1]) (rest := []) (z := 0) rfl rfl rfl (c_fail (c := 1)) ?_
    exact Pv.zret rfl (by rw [hQ]; exact ⟨⟨_, rfl⟩, (((FX.rf (P := fun q => q = 3) (F := F)).tr x2).fp rfl)⟩)
set_option maxRecDepth 100000 in
set_option maxHeartbeats 4000000 in
theorem fs_add {F : FW} {u : Nat} (hO : O3 F u) (a b c : Int32) : Pm Z_X5_addOp [.ref u, .int a, .int b, .int c] F (fun v F' => (∃ z, v = some (.int z)) ∧ FX (fun q => u ≤ q ∧ q ≤ u + 3) F F') := by
  refine Pm.of fun N => ?_
  obtain ⟨Q, hQ⟩ : ∃ Q : Option Value → FW → Prop, Q = (fun v F' => (∃ z, v = some (.int z)) ∧ FX (fun q => u ≤ q ∧ q ≤ u + 3) F F') := ⟨_, rfl⟩
  rw [← hQ]
  refine (show Pv (ab_T L_X5_addOp) N 0 [some (.ref u), some (.int a), some (.int b), some (.int c)] [] F Q from ?_)
  refine Pv.aload rfl rfl ?_
  refine Pv.getI (z := F.1 u 3) rfl rfl (rfl) ?_
  refine Pv.lit rfl ?_
  refine Pv.icmp rfl (fun c1 => ?_) (fun c1 => ?_)
  · skip
    replace c1 := of_decide_eq_true c1
    refine Pv.aload rfl rfl ?_
    refine Pv.getR (v := .ref (u + 1)) rfl rfl (hO 0 (by decide)) ?_
    refine Pv.aload rfl rfl ?_
    refine Pv.getI (z := F.1 u 3) rfl rfl (rfl) ?_
    refine Pv.iload rfl rfl ?_
    refine Pv.astk (k := (F.1 u 3).toNatClampNeg) (z := a) rfl rfl rfl ?_
    refine Pv.aload rfl rfl ?_
    refine Pv.getR (v := .ref (u + 2)) rfl rfl (hO 1 (by decide)) ?_
    refine Pv.aload rfl rfl ?_
    refine Pv.getI (z := (fp F (u + 1) ((F.1 u 3).toNatClampNeg) a).1 u 3) rfl rfl (rfl) ?_
    refine Pv.iload rfl rfl ?_
    refine Pv.astk (k := ((fp F (u + 1) ((F.1 u 3).toNatClampNeg) a).1 u 3).toNatClampNeg) (z := b) rfl rfl rfl ?_
    refine Pv.aload rfl rfl ?_
    refine Pv.getR (v := .ref (u + 3)) rfl rfl (hO 2 (by decide)) ?_
    refine Pv.aload rfl rfl ?_
    refine Pv.getI (z := (fp (fp F (u + 1) ((F.1 u 3).toNatClampNeg) a) (u + 2) (((fp F (u + 1) ((F.1 u 3).toNatClampNeg) a).1 u 3).toNatClampNeg) b).1 u 3) rfl rfl (rfl) ?_
    refine Pv.iload rfl rfl ?_
    refine Pv.astk (k := ((fp (fp F (u + 1) ((F.1 u 3).toNatClampNeg) a) (u + 2) (((fp F (u + 1) ((F.1 u 3).toNatClampNeg) a).1 u 3).toNatClampNeg) b).1 u 3).toNatClampNeg) (z := c) rfl rfl rfl ?_
    refine Pv.aload rfl rfl ?_
    refine Pv.dup rfl ?_
    refine Pv.getI (z := (fp (fp (fp F (u + 1) ((F.1 u 3).toNatClampNeg) a) (u + 2) (((fp F (u + 1) ((F.1 u 3).toNatClampNeg) a).1 u 3).toNatClampNeg) b) (u + 3) (((fp (fp F (u + 1) ((F.1 u 3).toNatClampNeg) a) (u + 2) (((fp F (u + 1) ((F.1 u 3).toNatClampNeg) a).1 u 3).toNatClampNeg) b).1 u 3).toNatClampNeg) c).1 u 3) rfl rfl (rfl) ?_
    refine Pv.lit rfl ?_
    refine Pv.bin (z := ((fp (fp (fp F (u + 1) ((F.1 u 3).toNatClampNeg) a) (u + 2) (((fp F (u + 1) ((F.1 u 3).toNatClampNeg) a).1 u 3).toNatClampNeg) b) (u + 3) (((fp (fp F (u + 1) ((F.1 u 3).toNatClampNeg) a) (u + 2) (((fp F (u + 1) ((F.1 u 3).toNatClampNeg) a).1 u 3).toNatClampNeg) b).1 u 3).toNatClampNeg) c).1 u 3) + 1) rfl (rfl) ?_
    refine Pv.putI rfl rfl ?_
    refine Pv.lit rfl ?_
    exact Pv.zret rfl (by rw [hQ]; exact ⟨⟨_, rfl⟩, (((((FX.rf (P := fun q => u ≤ q ∧ q ≤ u + 3) (F := F)).fp (show u ≤ u + 1 ∧ u + 1 ≤ u + 3 by omega)).fp (show u ≤ u + 2 ∧ u + 2 ≤ u + 3 by omega)).fp (show u ≤ u + 3 ∧ u + 3 ≤ u + 3 by omega)).fp (show u ≤ u ∧ u ≤ u + 3 by omega))⟩)
  · skip
    replace c1 := of_decide_eq_false c1
    refine Pv.lit rfl ?_
    exact Pv.zret rfl (by rw [hQ]; exact ⟨⟨_, rfl⟩, (FX.rf (P := fun q => u ≤ q ∧ q ≤ u + 3) (F := F))⟩)
set_option maxRecDepth 100000 in
set_option maxHeartbeats 4000000 in
theorem fs_onShore {F : FW} {u : Nat} (hG : GW F) (hO : O3 F u) (w : Int32) : Pm Z_X5_readOnShore [.ref u, .ref 3, .int w] F (fun v F' => (∃ z, v = some (.int z)) ∧ FSX u F F') := by
  refine Pm.of fun N => ?_
  obtain ⟨Q, hQ⟩ : ∃ Q : Option Value → FW → Prop, Q = (fun v F' => (∃ z, v = some (.int z)) ∧ FSX u F F') := ⟨_, rfl⟩
  rw [← hQ]
  refine (show Pv (ab_T (L_X5_readOnShore Z_X9_takeNumber Z_X9_step Z_X5_addOp)) N 0 [some (.ref u), some (.ref 3), some (.int w), none] [] F Q from ?_)
  refine Pv.aload rfl rfl ?_
  refine Pv.lit rfl ?_
  refine Pv.lit rfl ?_
  refine Pv.callV (as := [.ref 3, .int 0, .int 1]) (rest := []) rfl rfl rfl (fs_num ((FSX.rf (u := u) (F := F)).G hG) 0 1) ?_
  rintro _ G1 ⟨⟨z3, rfl⟩, x2⟩
  refine (show Pv _ _ 6 [some (.ref u), some (.ref 3), some (.int w), none] [.int z3] G1 Q from ?_)
  refine Pv.if0 rfl (fun c4 => ?_) (fun c4 => ?_)
  · skip
    replace c4 : decide (z3 = 0) = false := by simpa using c4
    replace c4 := of_decide_eq_false c4
    refine Pv.aload rfl rfl ?_
    refine Pv.getI (z := G1.1 3 7) rfl rfl (rfl) ?_
    refine Pv.istore (lo' := [some (.ref u), some (.ref 3), some (.int w), some (.int (G1.1 3 7))]) rfl rfl ?_
    refine Pv.aload rfl rfl ?_
    refine Pv.callV (as := [.ref 3]) (rest := []) rfl rfl rfl (fs_step (((FSX.rf (u := u) (F := F)).tr (FSX.of x2)).G hG)) ?_
    rintro _ G5 ⟨rfl, x6⟩
    refine (show Pv _ _ 20 [some (.ref u), some (.ref 3), some (.int w), some (.int (G1.1 3 7))] [] G5 Q from ?_)
    refine Pv.aload rfl rfl ?_
    refine Pv.iload rfl rfl ?_
    refine Pv.iload rfl rfl ?_
    refine Pv.lit rfl ?_
    refine Pv.callV (as := [.ref u, .int w, .int (G1.1 3 7), .int 0]) (rest := []) rfl rfl rfl (fs_add ((((FSX.rf (u := u) (F := F)).tr (FSX.of x2)).tr (FSX.of x6)).O hO) w (G1.1 3 7) 0) ?_
    rintro _ G7 ⟨⟨z9, rfl⟩, x8⟩
    refine (show Pv _ _ 27 [some (.ref u), some (.ref 3), some (.int w), some (.int (G1.1 3 7))] [.int z9] G7 Q from ?_)
    exact Pv.zret rfl (by rw [hQ]; exact ⟨⟨_, rfl⟩, ((((FSX.rf (u := u) (F := F)).tr (FSX.of x2)).tr (FSX.of x6)).tr (FSX.ou x8))⟩)
  · skip
    replace c4 : decide (z3 = 0) = true := by simpa using c4
    replace c4 := of_decide_eq_true c4
    refine Pv.lit rfl ?_
    exact Pv.zret rfl (by rw [hQ]; exact ⟨⟨_, rfl⟩, ((FSX.rf (u := u) (F := F)).tr (FSX.of x2))⟩)
set_option maxRecDepth 100000 in
set_option maxHeartbeats 4000000 in
theorem fs_compared {F : FW} {u : Nat} (hG : GW F) (hO : O3 F u) (w : Int32) : Pm Z_X5_readCompared [.ref u, .ref 3, .int w] F (fun v F' => (∃ z, v = some (.int z)) ∧ FSX u F F') := by
  refine Pm.of fun N => ?_
  obtain ⟨Q, hQ⟩ : ∃ Q : Option Value → FW → Prop, Q = (fun v F' => (∃ z, v = some (.int z)) ∧ FSX u F F') := ⟨_, rfl⟩
  rw [← hQ]
  refine (show Pv (ab_T (L_X5_readCompared Z_X9_step Z_X9_fail Z_X9_takeNumber Z_X5_addOp)) N 0 [some (.ref u), some (.ref 3), some (.int w), none, none] [] F Q from ?_)
  refine Pv.aload rfl rfl ?_
  refine Pv.callV (as := [.ref 3]) (rest := []) rfl rfl rfl (fs_step ((FSX.rf (u := u) (F := F)).G hG)) ?_
  rintro _ G1 ⟨rfl, x2⟩
  refine (show Pv _ _ 4 [some (.ref u), some (.ref 3), some (.int w), none, none] [] G1 Q from ?_)
  refine Pv.aload rfl rfl ?_
  refine Pv.getI (z := G1.1 3 5) rfl rfl (rfl) ?_
  refine Pv.istore (lo' := [some (.ref u), some (.ref 3), some (.int w), some (.int (G1.1 3 5)), none]) rfl rfl ?_
  refine Pv.iload rfl rfl ?_
  refine Pv.lit rfl ?_
  refine Pv.icmp rfl (fun c3 => ?_) (fun c3 => ?_)
  · skip
    replace c3 := of_decide_eq_true c3
    refine Pv.aload rfl rfl ?_
    refine Pv.lit rfl ?_
    refine Pv.lit rfl ?_
    refine Pv.callV (as := [.ref 3, .int 0, .int 999]) (rest := []) rfl rfl rfl (fs_num (((FSX.rf (u := u) (F := F)).tr (FSX.of x2)).G hG) 0 999) ?_
    rintro _ G4 ⟨⟨z6, rfl⟩, x5⟩
    refine (show Pv _ _ 41 [some (.ref u), some (.ref 3), some (.int w), some (.int (G1.1 3 5)), none] [.int z6] G4 Q from ?_)
    refine Pv.if0 rfl (fun c7 => ?_) (fun c7 => ?_)
    · skip
      replace c7 : decide (z6 = 0) = false := by simpa using c7
      replace c7 := of_decide_eq_false c7
      refine Pv.aload rfl rfl ?_
      refine Pv.getI (z := G4.1 3 7) rfl rfl (rfl) ?_
      refine Pv.istore (lo' := [some (.ref u), some (.ref 3), some (.int w), some (.int (G1.1 3 5)), some (.int (G4.1 3 7))]) rfl rfl ?_
      refine Pv.aload rfl rfl ?_
      refine Pv.callV (as := [.ref 3]) (rest := []) rfl rfl rfl (fs_step ((((FSX.rf (u := u) (F := F)).tr (FSX.of x2)).tr (FSX.of x5)).G hG)) ?_
      rintro _ G8 ⟨rfl, x9⟩
      refine (show Pv _ _ 56 [some (.ref u), some (.ref 3), some (.int w), some (.int (G1.1 3 5)), some (.int (G4.1 3 7))] [] G8 Q from ?_)
      refine Pv.aload rfl rfl ?_
      refine Pv.iload rfl rfl ?_
      refine Pv.iload rfl rfl ?_
      refine Pv.iload rfl rfl ?_
      refine Pv.callV (as := [.ref u, .int w, .int (G1.1 3 5), .int (G4.1 3 7)]) (rest := []) rfl rfl rfl (fs_add (((((FSX.rf (u := u) (F := F)).tr (FSX.of x2)).tr (FSX.of x5)).tr (FSX.of x9)).O hO) w (G1.1 3 5) (G4.1 3 7)) ?_
      rintro _ G10 ⟨⟨z12, rfl⟩, x11⟩
      refine (show Pv _ _ 64 [some (.ref u), some (.ref 3), some (.int w), some (.int (G1.1 3 5)), some (.int (G4.1 3 7))] [.int z12] G10 Q from ?_)
      exact Pv.zret rfl (by rw [hQ]; exact ⟨⟨_, rfl⟩, (((((FSX.rf (u := u) (F := F)).tr (FSX.of x2)).tr (FSX.of x5)).tr (FSX.of x9)).tr (FSX.ou x11))⟩)
    · skip
      replace c7 : decide (z6 = 0) = true := by simpa using c7
      replace c7 := of_decide_eq_true c7
      refine Pv.lit rfl ?_
      exact Pv.zret rfl (by rw [hQ]; exact ⟨⟨_, rfl⟩, (((FSX.rf (u := u) (F := F)).tr (FSX.of x2)).tr (FSX.of x5))⟩)
  · skip
    replace c3 := of_decide_eq_false c3
    refine Pv.iload rfl rfl ?_
    refine Pv.lit rfl ?_
    refine Pv.icmp rfl (fun c13 => ?_) (fun c13 => ?_)
    · skip
      replace c13 := of_decide_eq_true c13
      refine Pv.aload rfl rfl ?_
      refine Pv.lit rfl ?_
      refine Pv.lit rfl ?_
      refine Pv.callV (as := [.ref 3, .int 0, .int 999]) (rest := []) rfl rfl rfl (fs_num (((FSX.rf (u := u) (F := F)).tr (FSX.of x2)).G hG) 0 999) ?_
      rintro _ G14 ⟨⟨z16, rfl⟩, x15⟩
      refine (show Pv _ _ 41 [some (.ref u), some (.ref 3), some (.int w), some (.int (G1.1 3 5)), none] [.int z16] G14 Q from ?_)
      refine Pv.if0 rfl (fun c17 => ?_) (fun c17 => ?_)
      · skip
        replace c17 : decide (z16 = 0) = false := by simpa using c17
        replace c17 := of_decide_eq_false c17
        refine Pv.aload rfl rfl ?_
        refine Pv.getI (z := G14.1 3 7) rfl rfl (rfl) ?_
        refine Pv.istore (lo' := [some (.ref u), some (.ref 3), some (.int w), some (.int (G1.1 3 5)), some (.int (G14.1 3 7))]) rfl rfl ?_
        refine Pv.aload rfl rfl ?_
        refine Pv.callV (as := [.ref 3]) (rest := []) rfl rfl rfl (fs_step ((((FSX.rf (u := u) (F := F)).tr (FSX.of x2)).tr (FSX.of x15)).G hG)) ?_
        rintro _ G18 ⟨rfl, x19⟩
        refine (show Pv _ _ 56 [some (.ref u), some (.ref 3), some (.int w), some (.int (G1.1 3 5)), some (.int (G14.1 3 7))] [] G18 Q from ?_)
        refine Pv.aload rfl rfl ?_
        refine Pv.iload rfl rfl ?_
        refine Pv.iload rfl rfl ?_
        refine Pv.iload rfl rfl ?_
        refine Pv.callV (as := [.ref u, .int w, .int (G1.1 3 5), .int (G14.1 3 7)]) (rest := []) rfl rfl rfl (fs_add (((((FSX.rf (u := u) (F := F)).tr (FSX.of x2)).tr (FSX.of x15)).tr (FSX.of x19)).O hO) w (G1.1 3 5) (G14.1 3 7)) ?_
        rintro _ G20 ⟨⟨z22, rfl⟩, x21⟩
        refine (show Pv _ _ 64 [some (.ref u), some (.ref 3), some (.int w), some (.int (G1.1 3 5)), some (.int (G14.1 3 7))] [.int z22] G20 Q from ?_)
        exact Pv.zret rfl (by rw [hQ]; exact ⟨⟨_, rfl⟩, (((((FSX.rf (u := u) (F := F)).tr (FSX.of x2)).tr (FSX.of x15)).tr (FSX.of x19)).tr (FSX.ou x21))⟩)
      · skip
        replace c17 : decide (z16 = 0) = true := by simpa using c17
        replace c17 := of_decide_eq_true c17
        refine Pv.lit rfl ?_
        exact Pv.zret rfl (by rw [hQ]; exact ⟨⟨_, rfl⟩, (((FSX.rf (u := u) (F := F)).tr (FSX.of x2)).tr (FSX.of x15))⟩)
    · skip
      replace c13 := of_decide_eq_false c13
      refine Pv.iload rfl rfl ?_
      refine Pv.lit rfl ?_
      refine Pv.icmp rfl (fun c23 => ?_) (fun c23 => ?_)
      · skip
        replace c23 := of_decide_eq_true c23
        refine Pv.aload rfl rfl ?_
        refine Pv.lit rfl ?_
        refine Pv.lit rfl ?_
        refine Pv.callV (as := [.ref 3, .int 0, .int 999]) (rest := []) rfl rfl rfl (fs_num (((FSX.rf (u := u) (F := F)).tr (FSX.of x2)).G hG) 0 999) ?_
        rintro _ G24 ⟨⟨z26, rfl⟩, x25⟩
        refine (show Pv _ _ 41 [some (.ref u), some (.ref 3), some (.int w), some (.int (G1.1 3 5)), none] [.int z26] G24 Q from ?_)
        refine Pv.if0 rfl (fun c27 => ?_) (fun c27 => ?_)
        · skip
          replace c27 : decide (z26 = 0) = false := by simpa using c27
          replace c27 := of_decide_eq_false c27
          refine Pv.aload rfl rfl ?_
          refine Pv.getI (z := G24.1 3 7) rfl rfl (rfl) ?_
          refine Pv.istore (lo' := [some (.ref u), some (.ref 3), some (.int w), some (.int (G1.1 3 5)), some (.int (G24.1 3 7))]) rfl rfl ?_
          refine Pv.aload rfl rfl ?_
          refine Pv.callV (as := [.ref 3]) (rest := []) rfl rfl rfl (fs_step ((((FSX.rf (u := u) (F := F)).tr (FSX.of x2)).tr (FSX.of x25)).G hG)) ?_
          rintro _ G28 ⟨rfl, x29⟩
          refine (show Pv _ _ 56 [some (.ref u), some (.ref 3), some (.int w), some (.int (G1.1 3 5)), some (.int (G24.1 3 7))] [] G28 Q from ?_)
          refine Pv.aload rfl rfl ?_
          refine Pv.iload rfl rfl ?_
          refine Pv.iload rfl rfl ?_
          refine Pv.iload rfl rfl ?_
          refine Pv.callV (as := [.ref u, .int w, .int (G1.1 3 5), .int (G24.1 3 7)]) (rest := []) rfl rfl rfl (fs_add (((((FSX.rf (u := u) (F := F)).tr (FSX.of x2)).tr (FSX.of x25)).tr (FSX.of x29)).O hO) w (G1.1 3 5) (G24.1 3 7)) ?_
          rintro _ G30 ⟨⟨z32, rfl⟩, x31⟩
          refine (show Pv _ _ 64 [some (.ref u), some (.ref 3), some (.int w), some (.int (G1.1 3 5)), some (.int (G24.1 3 7))] [.int z32] G30 Q from ?_)
          exact Pv.zret rfl (by rw [hQ]; exact ⟨⟨_, rfl⟩, (((((FSX.rf (u := u) (F := F)).tr (FSX.of x2)).tr (FSX.of x25)).tr (FSX.of x29)).tr (FSX.ou x31))⟩)
        · skip
          replace c27 : decide (z26 = 0) = true := by simpa using c27
          replace c27 := of_decide_eq_true c27
          refine Pv.lit rfl ?_
          exact Pv.zret rfl (by rw [hQ]; exact ⟨⟨_, rfl⟩, (((FSX.rf (u := u) (F := F)).tr (FSX.of x2)).tr (FSX.of x25))⟩)
      · skip
        replace c23 := of_decide_eq_false c23
        refine Pv.aload rfl rfl ?_
        refine Pv.lit rfl ?_
        refine Pv.callVI (as := [.ref 3, .int 1]) (rest := []) (z := 0) rfl rfl rfl (c_fail (c := 1)) ?_
        exact Pv.zret rfl (by rw [hQ]; exact ⟨⟨_, rfl⟩, (((FSX.rf (u := u) (F := F)).tr (FSX.of x2)).p3)⟩)
set_option maxRecDepth 100000 in
set_option maxHeartbeats 4000000 in
theorem fs_bracket {xC : List Value → ab_H → Option ab_O} (hC : FSP xC) {F : FW} {u : Nat} (hG : GW F) (hO : O3 F u) (w : Int32) : Pm (ab_X (ab_T (L_X5_readBracket Z_X9_step xC Z_X9_fail)) 3) [.ref u, .ref 3, .int w] F (fun v F' => (∃ z, v = some (.int z)) ∧ FSX u F F') := by
  refine Pm.of fun N => ?_
  obtain ⟨Q, hQ⟩ : ∃ Q : Option Value → FW → Prop, Q = (fun v F' => (∃ z, v = some (.int z)) ∧ FSX u F F') := ⟨_, rfl⟩
  rw [← hQ]
  refine (show Pv (ab_T (L_X5_readBracket Z_X9_step xC Z_X9_fail)) N 0 [some (.ref u), some (.ref 3), some (.int w)] [] F Q from ?_)
  refine Pv.aload rfl rfl ?_
  refine Pv.callV (as := [.ref 3]) (rest := []) rfl rfl rfl (fs_step ((FSX.rf (u := u) (F := F)).G hG)) ?_
  rintro _ G1 ⟨rfl, x2⟩
  refine (show Pv _ _ 4 [some (.ref u), some (.ref 3), some (.int w)] [] G1 Q from ?_)
  refine Pv.aload rfl rfl ?_
  refine Pv.aload rfl rfl ?_
  refine Pv.iload rfl rfl ?_
  refine Pv.lit rfl ?_
  refine Pv.bin (z := w + 1) rfl (rfl) ?_
  refine Pv.callV (as := [.ref u, .ref 3, .int (w + 1)]) (rest := []) rfl rfl rfl (hC u _ (w + 1) (((FSX.rf (u := u) (F := F)).tr (FSX.of x2)).G hG) (((FSX.rf (u := u) (F := F)).tr (FSX.of x2)).O hO)) ?_
  rintro _ G3 ⟨⟨z5, rfl⟩, x4⟩
  refine (show Pv _ _ 12 [some (.ref u), some (.ref 3), some (.int w)] [.int z5] G3 Q from ?_)
  refine Pv.if0 rfl (fun c6 => ?_) (fun c6 => ?_)
  · skip
    replace c6 : decide (z5 = 0) = false := by simpa using c6
    replace c6 := of_decide_eq_false c6
    refine Pv.aload rfl rfl ?_
    refine Pv.getI (z := G3.1 3 5) rfl rfl (rfl) ?_
    refine Pv.lit rfl ?_
    refine Pv.icmp rfl (fun c7 => ?_) (fun c7 => ?_)
    · skip
      replace c7 := of_decide_eq_true c7
      refine Pv.aload rfl rfl ?_
      refine Pv.callV (as := [.ref 3]) (rest := []) rfl rfl rfl (fs_step ((((FSX.rf (u := u) (F := F)).tr (FSX.of x2)).tr x4).G hG)) ?_
      rintro _ G8 ⟨rfl, x9⟩
      refine (show Pv _ _ 36 [some (.ref u), some (.ref 3), some (.int w)] [] G8 Q from ?_)
      refine Pv.lit rfl ?_
      exact Pv.zret rfl (by rw [hQ]; exact ⟨⟨_, rfl⟩, ((((FSX.rf (u := u) (F := F)).tr (FSX.of x2)).tr x4).tr (FSX.of x9))⟩)
    · skip
      replace c7 := of_decide_eq_false c7
      refine Pv.aload rfl rfl ?_
      refine Pv.lit rfl ?_
      refine Pv.callVI (as := [.ref 3, .int 1]) (rest := []) (z := 0) rfl rfl rfl (c_fail (c := 1)) ?_
      exact Pv.zret rfl (by rw [hQ]; exact ⟨⟨_, rfl⟩, ((((FSX.rf (u := u) (F := F)).tr (FSX.of x2)).tr x4).p3)⟩)
  · skip
    replace c6 : decide (z5 = 0) = true := by simpa using c6
    replace c6 := of_decide_eq_true c6
    refine Pv.lit rfl ?_
    exact Pv.zret rfl (by rw [hQ]; exact ⟨⟨_, rfl⟩, (((FSX.rf (u := u) (F := F)).tr (FSX.of x2)).tr x4)⟩)
set_option maxRecDepth 100000 in
set_option maxHeartbeats 4000000 in
theorem fs_one {xB : List Value → ab_H → Option ab_O} (hB : FSP xB) {xO : List Value → ab_H → Option ab_O} (h1 : FSP xO) {F : FW} {u : Nat} (hG : GW F) (hO : O3 F u) (w : Int32) : Pm (ab_X (ab_T (L_X5_readOne Z_X9_fail xB Z_X9_step xO Z_X5_addOp Z_X5_readOnShore Z_X5_readCompared)) 6) [.ref u, .ref 3, .int w] F (fun v F' => (∃ z, v = some (.int z)) ∧ FSX u F F') := by
  refine Pm.of fun N => ?_
  obtain ⟨Q, hQ⟩ : ∃ Q : Option Value → FW → Prop, Q = (fun v F' => (∃ z, v = some (.int z)) ∧ FSX u F F') := ⟨_, rfl⟩
  rw [← hQ]
  refine (show Pv (ab_T (L_X5_readOne Z_X9_fail xB Z_X9_step xO Z_X5_addOp Z_X5_readOnShore Z_X5_readCompared)) N 0 [some (.ref u), some (.ref 3), some (.int w), none, none, none] [] F Q from ?_)
  refine Pv.aload rfl rfl ?_
  refine Pv.getI (z := F.1 3 5) rfl rfl (rfl) ?_
  refine Pv.lit rfl ?_
  refine Pv.icmp rfl (fun c1 => ?_) (fun c1 => ?_)
  · skip
    replace c1 : decide (F.1 3 5 = 40) = false := by simpa using c1
    replace c1 := of_decide_eq_false c1
    refine Pv.lit rfl ?_
    refine Pv.istore (lo' := [some (.ref u), some (.ref 3), some (.int w), some (.int 0), none, none]) rfl rfl ?_
    refine Pv.iload rfl rfl ?_
    refine Pv.if0 rfl (fun c2 => ?_) (fun c2 => ?_)
    · skip
      replace c2 : decide ((0 : Int32) = 0) = false := by simpa using c2
      replace c2 := mt (i_eq (a := 0) (b := 0) (by omega) (by omega)).mpr (of_decide_eq_false c2)
      omega
    · skip
      replace c2 : decide ((0 : Int32) = 0) = true := by simpa using c2
      replace c2 := (i_eq (a := 0) (b := 0) (by omega) (by omega)).mp (of_decide_eq_true c2)
      refine Pv.aload rfl rfl ?_
      refine Pv.getI (z := F.1 3 5) rfl rfl (rfl) ?_
      refine Pv.lit rfl ?_
      refine Pv.icmp rfl (fun c3 => ?_) (fun c3 => ?_)
      · skip
        replace c3 := of_decide_eq_true c3
        refine Pv.lit rfl ?_
        refine Pv.istore (lo' := [some (.ref u), some (.ref 3), some (.int w), some (.int 0), some (.int 0), none]) rfl rfl ?_
        refine Pv.iload rfl rfl ?_
        refine Pv.if0 rfl (fun c4 => ?_) (fun c4 => ?_)
        · skip
          replace c4 : decide ((0 : Int32) = 0) = false := by simpa using c4
          replace c4 := mt (i_eq (a := 0) (b := 0) (by omega) (by omega)).mpr (of_decide_eq_false c4)
          omega
        · skip
          replace c4 : decide ((0 : Int32) = 0) = true := by simpa using c4
          replace c4 := (i_eq (a := 0) (b := 0) (by omega) (by omega)).mp (of_decide_eq_true c4)
          refine Pv.aload rfl rfl ?_
          refine Pv.lit rfl ?_
          refine Pv.callVI (as := [.ref 3, .int 1]) (rest := []) (z := 0) rfl rfl rfl (c_fail (c := 1)) ?_
          exact Pv.zret rfl (by rw [hQ]; exact ⟨⟨_, rfl⟩, ((FSX.rf (u := u) (F := F)).p3)⟩)
      · skip
        replace c3 := of_decide_eq_false c3
        refine Pv.aload rfl rfl ?_
        refine Pv.getI (z := F.1 3 5) rfl rfl (rfl) ?_
        refine Pv.lit rfl ?_
        refine Pv.icmp rfl (fun c5 => ?_) (fun c5 => ?_)
        · skip
          replace c5 := of_decide_eq_true c5
          refine Pv.lit rfl ?_
          refine Pv.istore (lo' := [some (.ref u), some (.ref 3), some (.int w), some (.int 0), some (.int 0), none]) rfl rfl ?_
          refine Pv.iload rfl rfl ?_
          refine Pv.if0 rfl (fun c6 => ?_) (fun c6 => ?_)
          · skip
            replace c6 : decide ((0 : Int32) = 0) = false := by simpa using c6
            replace c6 := mt (i_eq (a := 0) (b := 0) (by omega) (by omega)).mpr (of_decide_eq_false c6)
            omega
          · skip
            replace c6 : decide ((0 : Int32) = 0) = true := by simpa using c6
            replace c6 := (i_eq (a := 0) (b := 0) (by omega) (by omega)).mp (of_decide_eq_true c6)
            refine Pv.aload rfl rfl ?_
            refine Pv.lit rfl ?_
            refine Pv.callVI (as := [.ref 3, .int 1]) (rest := []) (z := 0) rfl rfl rfl (c_fail (c := 1)) ?_
            exact Pv.zret rfl (by rw [hQ]; exact ⟨⟨_, rfl⟩, ((FSX.rf (u := u) (F := F)).p3)⟩)
        · skip
          replace c5 := of_decide_eq_false c5
          refine Pv.lit rfl ?_
          refine Pv.goto rfl ?_
          refine Pv.istore (lo' := [some (.ref u), some (.ref 3), some (.int w), some (.int 0), some (.int 1), none]) rfl rfl ?_
          refine Pv.iload rfl rfl ?_
          refine Pv.if0 rfl (fun c7 => ?_) (fun c7 => ?_)
          · skip
            replace c7 : decide ((1 : Int32) = 0) = false := by simpa using c7
            replace c7 := mt (i_eq (a := 1) (b := 0) (by omega) (by omega)).mpr (of_decide_eq_false c7)
            refine Pv.aload rfl rfl ?_
            refine Pv.getI (z := F.1 u 4) rfl rfl (rfl) ?_
            refine Pv.lit rfl ?_
            refine Pv.icmp rfl (fun c8 => ?_) (fun c8 => ?_)
            · skip
              replace c8 := of_decide_eq_true c8
              refine Pv.aload rfl rfl ?_
              refine Pv.lit rfl ?_
              refine Pv.callVI (as := [.ref 3, .int 4]) (rest := []) (z := 0) rfl rfl rfl (c_fail (c := 4)) ?_
              exact Pv.zret rfl (by rw [hQ]; exact ⟨⟨_, rfl⟩, ((FSX.rf (u := u) (F := F)).p3)⟩)
            · skip
              replace c8 := of_decide_eq_false c8
              refine Pv.iload rfl rfl ?_
              refine Pv.lit rfl ?_
              refine Pv.icmp rfl (fun c9 => ?_) (fun c9 => ?_)
              · skip
                replace c9 := of_decide_eq_true c9
                refine Pv.aload rfl rfl ?_
                refine Pv.dup rfl ?_
                refine Pv.getI (z := F.1 u 4) rfl rfl (rfl) ?_
                refine Pv.lit rfl ?_
                refine Pv.bin (z := (F.1 u 4) + 1) rfl (rfl) ?_
                refine Pv.putI rfl rfl ?_
                refine Pv.iload rfl rfl ?_
                refine Pv.if0 rfl (fun c10 => ?_) (fun c10 => ?_)
                · skip
                  replace c10 := (i_eq (a := 0) (b := 0) (by omega) (by omega)).mp (of_decide_eq_true c10)
                  refine Pv.aload rfl rfl ?_
                  refine Pv.getI (z := (fp F u 4 ((F.1 u 4) + 1)).1 3 5) rfl rfl (rfl) ?_
                  refine Pv.istore (lo' := [some (.ref u), some (.ref 3), some (.int w), some (.int 0), some (.int 1), some (.int ((fp F u 4 ((F.1 u 4) + 1)).1 3 5))]) rfl rfl ?_
                  refine Pv.iload rfl rfl ?_
                  refine Pv.lit rfl ?_
                  refine Pv.icmp rfl (fun c11 => ?_) (fun c11 => ?_)
                  · skip
                    replace c11 : decide ((fp F u 4 ((F.1 u 4) + 1)).1 3 5 = 79) = false := by simpa using c11
                    replace c11 := of_decide_eq_false c11
                    refine Pv.iload rfl rfl ?_
                    refine Pv.lit rfl ?_
                    refine Pv.icmp rfl (fun c12 => ?_) (fun c12 => ?_)
                    · skip
                      replace c12 := of_decide_eq_true c12
                      refine Pv.aload rfl rfl ?_
                      refine Pv.aload rfl rfl ?_
                      refine Pv.iload rfl rfl ?_
                      refine Pv.callV (as := [.ref u, .ref 3, .int ((fp F u 4 ((F.1 u 4) + 1)).1 3 5)]) (rest := []) rfl rfl rfl (fs_compared (((FSX.rf (u := u) (F := F)).pu).G hG) (((FSX.rf (u := u) (F := F)).pu).O hO) ((fp F u 4 ((F.1 u 4) + 1)).1 3 5)) ?_
                      rintro _ G13 ⟨⟨z15, rfl⟩, x14⟩
                      refine (show Pv _ _ 166 [some (.ref u), some (.ref 3), some (.int w), some (.int 0), some (.int 1), some (.int ((fp F u 4 ((F.1 u 4) + 1)).1 3 5))] [.int z15] G13 Q from ?_)
                      exact Pv.zret rfl (by rw [hQ]; exact ⟨⟨_, rfl⟩, (((FSX.rf (u := u) (F := F)).pu).tr x14)⟩)
                    · skip
                      replace c12 := of_decide_eq_false c12
                      refine Pv.aload rfl rfl ?_
                      refine Pv.aload rfl rfl ?_
                      refine Pv.iload rfl rfl ?_
                      refine Pv.callV (as := [.ref u, .ref 3, .int ((fp F u 4 ((F.1 u 4) + 1)).1 3 5)]) (rest := []) rfl rfl rfl (fs_onShore (((FSX.rf (u := u) (F := F)).pu).G hG) (((FSX.rf (u := u) (F := F)).pu).O hO) ((fp F u 4 ((F.1 u 4) + 1)).1 3 5)) ?_
                      rintro _ G16 ⟨⟨z18, rfl⟩, x17⟩
                      refine (show Pv _ _ 156 [some (.ref u), some (.ref 3), some (.int w), some (.int 0), some (.int 1), some (.int ((fp F u 4 ((F.1 u 4) + 1)).1 3 5))] [.int z18] G16 Q from ?_)
                      refine Pv.goto rfl ?_
                      exact Pv.zret rfl (by rw [hQ]; exact ⟨⟨_, rfl⟩, (((FSX.rf (u := u) (F := F)).pu).tr x17)⟩)
                  · skip
                    replace c11 : decide ((fp F u 4 ((F.1 u 4) + 1)).1 3 5 = 79) = true := by simpa using c11
                    replace c11 := of_decide_eq_true c11
                    refine Pv.aload rfl rfl ?_
                    refine Pv.callV (as := [.ref 3]) (rest := []) rfl rfl rfl (fs_step (((FSX.rf (u := u) (F := F)).pu).G hG)) ?_
                    rintro _ G19 ⟨rfl, x20⟩
                    refine (show Pv _ _ 114 [some (.ref u), some (.ref 3), some (.int w), some (.int 0), some (.int 1), some (.int ((fp F u 4 ((F.1 u 4) + 1)).1 3 5))] [] G19 Q from ?_)
                    refine Pv.aload rfl rfl ?_
                    refine Pv.aload rfl rfl ?_
                    refine Pv.iload rfl rfl ?_
                    refine Pv.lit rfl ?_
                    refine Pv.bin (z := w + 1) rfl (rfl) ?_
                    refine Pv.callV (as := [.ref u, .ref 3, .int (w + 1)]) (rest := []) rfl rfl rfl (h1 u _ (w + 1) ((((FSX.rf (u := u) (F := F)).pu).tr (FSX.of x20)).G hG) ((((FSX.rf (u := u) (F := F)).pu).tr (FSX.of x20)).O hO)) ?_
                    rintro _ G21 ⟨⟨z23, rfl⟩, x22⟩
                    refine (show Pv _ _ 122 [some (.ref u), some (.ref 3), some (.int w), some (.int 0), some (.int 1), some (.int ((fp F u 4 ((F.1 u 4) + 1)).1 3 5))] [.int z23] G21 Q from ?_)
                    refine Pv.if0 rfl (fun c24 => ?_) (fun c24 => ?_)
                    · skip
                      replace c24 := of_decide_eq_true c24
                      refine Pv.lit rfl ?_
                      exact Pv.zret rfl (by rw [hQ]; exact ⟨⟨_, rfl⟩, ((((FSX.rf (u := u) (F := F)).pu).tr (FSX.of x20)).tr x22)⟩)
                    · skip
                      replace c24 := of_decide_eq_false c24
                      refine Pv.aload rfl rfl ?_
                      refine Pv.lit rfl ?_
                      refine Pv.lit rfl ?_
                      refine Pv.lit rfl ?_
                      refine Pv.callV (as := [.ref u, .int 79, .int 0, .int 0]) (rest := []) rfl rfl rfl (fs_add (((((FSX.rf (u := u) (F := F)).pu).tr (FSX.of x20)).tr x22).O hO) 79 0 0) ?_
                      rintro _ G25 ⟨⟨z27, rfl⟩, x26⟩
                      refine (show Pv _ _ 133 [some (.ref u), some (.ref 3), some (.int w), some (.int 0), some (.int 1), some (.int ((fp F u 4 ((F.1 u 4) + 1)).1 3 5))] [.int z27] G25 Q from ?_)
                      refine Pv.if0 rfl (fun c28 => ?_) (fun c28 => ?_)
                      · skip
                        replace c28 := of_decide_eq_true c28
                        refine Pv.lit rfl ?_
                        exact Pv.zret rfl (by rw [hQ]; exact ⟨⟨_, rfl⟩, (((((FSX.rf (u := u) (F := F)).pu).tr (FSX.of x20)).tr x22).tr (FSX.ou x26))⟩)
                      · skip
                        replace c28 := of_decide_eq_false c28
                        refine Pv.lit rfl ?_
                        refine Pv.goto rfl ?_
                        exact Pv.zret rfl (by rw [hQ]; exact ⟨⟨_, rfl⟩, (((((FSX.rf (u := u) (F := F)).pu).tr (FSX.of x20)).tr x22).tr (FSX.ou x26))⟩)
                · skip
                  replace c10 := mt (i_eq (a := 0) (b := 0) (by omega) (by omega)).mpr (of_decide_eq_false c10)
                  omega
              · skip
                replace c9 := of_decide_eq_false c9
                refine Pv.aload rfl rfl ?_
                refine Pv.lit rfl ?_
                refine Pv.callVI (as := [.ref 3, .int 4]) (rest := []) (z := 0) rfl rfl rfl (c_fail (c := 4)) ?_
                exact Pv.zret rfl (by rw [hQ]; exact ⟨⟨_, rfl⟩, ((FSX.rf (u := u) (F := F)).p3)⟩)
          · skip
            replace c7 : decide ((1 : Int32) = 0) = true := by simpa using c7
            replace c7 := (i_eq (a := 1) (b := 0) (by omega) (by omega)).mp (of_decide_eq_true c7)
            omega
  · skip
    replace c1 : decide (F.1 3 5 = 40) = true := by simpa using c1
    replace c1 := of_decide_eq_true c1
    refine Pv.lit rfl ?_
    refine Pv.goto rfl ?_
    refine Pv.istore (lo' := [some (.ref u), some (.ref 3), some (.int w), some (.int 1), none, none]) rfl rfl ?_
    refine Pv.iload rfl rfl ?_
    refine Pv.if0 rfl (fun c29 => ?_) (fun c29 => ?_)
    · skip
      replace c29 : decide ((1 : Int32) = 0) = false := by simpa using c29
      replace c29 := mt (i_eq (a := 1) (b := 0) (by omega) (by omega)).mpr (of_decide_eq_false c29)
      refine Pv.lit rfl ?_
      refine Pv.goto rfl ?_
      refine Pv.istore (lo' := [some (.ref u), some (.ref 3), some (.int w), some (.int 1), some (.int 1), none]) rfl rfl ?_
      refine Pv.iload rfl rfl ?_
      refine Pv.if0 rfl (fun c30 => ?_) (fun c30 => ?_)
      · skip
        replace c30 : decide ((1 : Int32) = 0) = false := by simpa using c30
        replace c30 := mt (i_eq (a := 1) (b := 0) (by omega) (by omega)).mpr (of_decide_eq_false c30)
        refine Pv.aload rfl rfl ?_
        refine Pv.getI (z := F.1 u 4) rfl rfl (rfl) ?_
        refine Pv.lit rfl ?_
        refine Pv.icmp rfl (fun c31 => ?_) (fun c31 => ?_)
        · skip
          replace c31 := of_decide_eq_true c31
          refine Pv.aload rfl rfl ?_
          refine Pv.lit rfl ?_
          refine Pv.callVI (as := [.ref 3, .int 4]) (rest := []) (z := 0) rfl rfl rfl (c_fail (c := 4)) ?_
          exact Pv.zret rfl (by rw [hQ]; exact ⟨⟨_, rfl⟩, ((FSX.rf (u := u) (F := F)).p3)⟩)
        · skip
          replace c31 := of_decide_eq_false c31
          refine Pv.iload rfl rfl ?_
          refine Pv.lit rfl ?_
          refine Pv.icmp rfl (fun c32 => ?_) (fun c32 => ?_)
          · skip
            replace c32 := of_decide_eq_true c32
            refine Pv.aload rfl rfl ?_
            refine Pv.dup rfl ?_
            refine Pv.getI (z := F.1 u 4) rfl rfl (rfl) ?_
            refine Pv.lit rfl ?_
            refine Pv.bin (z := (F.1 u 4) + 1) rfl (rfl) ?_
            refine Pv.putI rfl rfl ?_
            refine Pv.iload rfl rfl ?_
            refine Pv.if0 rfl (fun c33 => ?_) (fun c33 => ?_)
            · skip
              replace c33 := (i_eq (a := 1) (b := 0) (by omega) (by omega)).mp (of_decide_eq_true c33)
              omega
            · skip
              replace c33 := mt (i_eq (a := 1) (b := 0) (by omega) (by omega)).mpr (of_decide_eq_false c33)
              refine Pv.aload rfl rfl ?_
              refine Pv.aload rfl rfl ?_
              refine Pv.iload rfl rfl ?_
              refine Pv.callV (as := [.ref u, .ref 3, .int w]) (rest := []) rfl rfl rfl (hB u _ w (((FSX.rf (u := u) (F := F)).pu).G hG) (((FSX.rf (u := u) (F := F)).pu).O hO)) ?_
              rintro _ G34 ⟨⟨z36, rfl⟩, x35⟩
              refine (show Pv _ _ 96 [some (.ref u), some (.ref 3), some (.int w), some (.int 1), some (.int 1), none] [.int z36] G34 Q from ?_)
              exact Pv.zret rfl (by rw [hQ]; exact ⟨⟨_, rfl⟩, (((FSX.rf (u := u) (F := F)).pu).tr x35)⟩)
          · skip
            replace c32 := of_decide_eq_false c32
            refine Pv.aload rfl rfl ?_
            refine Pv.lit rfl ?_
            refine Pv.callVI (as := [.ref 3, .int 4]) (rest := []) (z := 0) rfl rfl rfl (c_fail (c := 4)) ?_
            exact Pv.zret rfl (by rw [hQ]; exact ⟨⟨_, rfl⟩, ((FSX.rf (u := u) (F := F)).p3)⟩)
      · skip
        replace c30 : decide ((1 : Int32) = 0) = true := by simpa using c30
        replace c30 := (i_eq (a := 1) (b := 0) (by omega) (by omega)).mp (of_decide_eq_true c30)
        omega
    · skip
      replace c29 : decide ((1 : Int32) = 0) = true := by simpa using c29
      replace c29 := (i_eq (a := 1) (b := 0) (by omega) (by omega)).mp (of_decide_eq_true c29)
      omega
set_option maxRecDepth 100000 in
set_option maxHeartbeats 4000000 in
theorem fs_all {xO : List Value → ab_H → Option ab_O} (h1 : FSP xO) {F : FW} {u : Nat} (hG : GW F) (hO : O3 F u) (w : Int32) : Pm (ab_X (ab_T (L_X5_readAll xO Z_X9_step Z_X5_addOp)) 4) [.ref u, .ref 3, .int w] F (fun v F' => (∃ z, v = some (.int z)) ∧ FSX u F F') := by
  refine Pm.of fun N => ?_
  obtain ⟨Q, hQ⟩ : ∃ Q : Option Value → FW → Prop, Q = (fun v F' => (∃ z, v = some (.int z)) ∧ FSX u F F') := ⟨_, rfl⟩
  rw [← hQ]
  refine (show Pv (ab_T (L_X5_readAll xO Z_X9_step Z_X5_addOp)) N 0 [some (.ref u), some (.ref 3), some (.int w), none] [] F Q from ?_)
  refine Pv.aload rfl rfl ?_
  refine Pv.aload rfl rfl ?_
  refine Pv.iload rfl rfl ?_
  refine Pv.callV (as := [.ref u, .ref 3, .int w]) (rest := []) rfl rfl rfl (h1 u _ w ((FSX.rf (u := u) (F := F)).G hG) ((FSX.rf (u := u) (F := F)).O hO)) ?_
  rintro _ G1 ⟨⟨z3, rfl⟩, x2⟩
  refine (show Pv _ _ 6 [some (.ref u), some (.ref 3), some (.int w), none] [.int z3] G1 Q from ?_)
  refine Pv.if0 rfl (fun c4 => ?_) (fun c4 => ?_)
  · skip
    replace c4 : decide (z3 = 0) = false := by simpa using c4
    replace c4 := of_decide_eq_false c4
    refine Pv.lit rfl ?_
    refine Pv.istore (lo' := [some (.ref u), some (.ref 3), some (.int w), some (.int 0)]) rfl rfl ?_
    refine Pv.lp (ι := Nat × FW) (lof := fun ⟨k, G⟩ => [some (.ref u), some (.ref 3), some (.int w), some (.int (Int32.ofNat k))]) (Ff := fun ⟨k, G⟩ => G) (P := fun ⟨k, G⟩ => k ≤ 20 ∧ FSX u F G) ?_ (0, G1) (⟨by omega, ((FSX.rf (u := u) (F := F)).tr x2)⟩)
    rintro N5 hN6 ⟨k, G⟩ hi7 ih8
    refine (show Pv _ _ 13 [some (.ref u), some (.ref 3), some (.int w), some (.int (Int32.ofNat k))] [] G Q from ?_)
    obtain ⟨hk, hx⟩ := hi7
    refine Pv.iloadS rfl rfl ?_
    refine Pv.lit rfl ?_
    refine Pv.icmp rfl (fun c9 => ?_) (fun c9 => ?_)
    · skip
      replace c9 := (i_le (a := 20) (b := k) (by omega) (by omega)).mp (of_decide_eq_true c9)
      refine Pv.lit rfl ?_
      exact Pv.zret rfl (by rw [hQ]; exact ⟨⟨_, rfl⟩, hx⟩)
    · skip
      replace c9 := mt (i_le (a := 20) (b := k) (by omega) (by omega)).mpr (of_decide_eq_false c9)
      refine Pv.aload rfl rfl ?_
      refine Pv.getI (z := G.1 3 5) rfl rfl (rfl) ?_
      refine Pv.lit rfl ?_
      refine Pv.icmp rfl (fun c10 => ?_) (fun c10 => ?_)
      · skip
        replace c10 : decide (G.1 3 5 = 78) = false := by simpa using c10
        replace c10 := of_decide_eq_false c10
        refine Pv.lit rfl ?_
        exact Pv.zret rfl (by rw [hQ]; exact ⟨⟨_, rfl⟩, hx⟩)
      · skip
        replace c10 : decide (G.1 3 5 = 78) = true := by simpa using c10
        replace c10 := of_decide_eq_true c10
        refine Pv.aload rfl rfl ?_
        refine Pv.callV (as := [.ref 3]) (rest := []) rfl rfl rfl (fs_step (hx.G hG)) ?_
        rintro _ G11 ⟨rfl, x12⟩
        refine (show Pv _ _ 32 [some (.ref u), some (.ref 3), some (.int w), some (.int (Int32.ofNat k))] [] G11 Q from ?_)
        refine Pv.aload rfl rfl ?_
        refine Pv.aload rfl rfl ?_
        refine Pv.iload rfl rfl ?_
        refine Pv.callV (as := [.ref u, .ref 3, .int w]) (rest := []) rfl rfl rfl (h1 u _ w ((hx.tr (FSX.of x12)).G hG) ((hx.tr (FSX.of x12)).O hO)) ?_
        rintro _ G13 ⟨⟨z15, rfl⟩, x14⟩
        refine (show Pv _ _ 38 [some (.ref u), some (.ref 3), some (.int w), some (.int (Int32.ofNat k))] [.int z15] G13 Q from ?_)
        refine Pv.if0 rfl (fun c16 => ?_) (fun c16 => ?_)
        · skip
          replace c16 := of_decide_eq_true c16
          refine Pv.lit rfl ?_
          exact Pv.zret rfl (by rw [hQ]; exact ⟨⟨_, rfl⟩, ((hx.tr (FSX.of x12)).tr x14)⟩)
        · skip
          replace c16 := of_decide_eq_false c16
          refine Pv.aload rfl rfl ?_
          refine Pv.lit rfl ?_
          refine Pv.lit rfl ?_
          refine Pv.lit rfl ?_
          refine Pv.callV (as := [.ref u, .int 78, .int 0, .int 0]) (rest := []) rfl rfl rfl (fs_add (((hx.tr (FSX.of x12)).tr x14).O hO) 78 0 0) ?_
          rintro _ G17 ⟨⟨z19, rfl⟩, x18⟩
          refine (show Pv _ _ 49 [some (.ref u), some (.ref 3), some (.int w), some (.int (Int32.ofNat k))] [.int z19] G17 Q from ?_)
          refine Pv.if0 rfl (fun c20 => ?_) (fun c20 => ?_)
          · skip
            replace c20 : decide (z19 = 0) = false := by simpa using c20
            replace c20 := of_decide_eq_false c20
            refine Pv.iinc (y := Int32.ofNat (k + 1)) (lo' := [some (.ref u), some (.ref 3), some (.int w), some (.int (Int32.ofNat (k + 1)))]) rfl rfl (i_add k 1) rfl ?_
            refine Pv.goto rfl ?_
            exact ih8 (k + 1, G17) (⟨by omega, (((hx.tr (FSX.of x12)).tr x14).tr (FSX.ou x18))⟩)
          · skip
            replace c20 : decide (z19 = 0) = true := by simpa using c20
            replace c20 := of_decide_eq_true c20
            refine Pv.lit rfl ?_
            exact Pv.zret rfl (by rw [hQ]; exact ⟨⟨_, rfl⟩, (((hx.tr (FSX.of x12)).tr x14).tr (FSX.ou x18))⟩)
  · skip
    replace c4 : decide (z3 = 0) = true := by simpa using c4
    replace c4 := of_decide_eq_true c4
    refine Pv.lit rfl ?_
    exact Pv.zret rfl (by rw [hQ]; exact ⟨⟨_, rfl⟩, ((FSX.rf (u := u) (F := F)).tr x2)⟩)
set_option maxRecDepth 100000 in
set_option maxHeartbeats 4000000 in
theorem fs_cond {xA : List Value → ab_H → Option ab_O} (hA : FSP xA) {F : FW} {u : Nat} (hG : GW F) (hO : O3 F u) (w : Int32) : Pm (ab_X (ab_T (L_X5_readCond xA Z_X9_step Z_X5_addOp)) 4) [.ref u, .ref 3, .int w] F (fun v F' => (∃ z, v = some (.int z)) ∧ FSX u F F') := by
  refine Pm.of fun N => ?_
  obtain ⟨Q, hQ⟩ : ∃ Q : Option Value → FW → Prop, Q = (fun v F' => (∃ z, v = some (.int z)) ∧ FSX u F F') := ⟨_, rfl⟩
  rw [← hQ]
  refine (show Pv (ab_T (L_X5_readCond xA Z_X9_step Z_X5_addOp)) N 0 [some (.ref u), some (.ref 3), some (.int w), none] [] F Q from ?_)
  refine Pv.aload rfl rfl ?_
  refine Pv.aload rfl rfl ?_
  refine Pv.iload rfl rfl ?_
  refine Pv.callV (as := [.ref u, .ref 3, .int w]) (rest := []) rfl rfl rfl (hA u _ w ((FSX.rf (u := u) (F := F)).G hG) ((FSX.rf (u := u) (F := F)).O hO)) ?_
  rintro _ G1 ⟨⟨z3, rfl⟩, x2⟩
  refine (show Pv _ _ 6 [some (.ref u), some (.ref 3), some (.int w), none] [.int z3] G1 Q from ?_)
  refine Pv.if0 rfl (fun c4 => ?_) (fun c4 => ?_)
  · skip
    replace c4 : decide (z3 = 0) = false := by simpa using c4
    replace c4 := of_decide_eq_false c4
    refine Pv.lit rfl ?_
    refine Pv.istore (lo' := [some (.ref u), some (.ref 3), some (.int w), some (.int 0)]) rfl rfl ?_
    refine Pv.lp (ι := Nat × FW) (lof := fun ⟨k, G⟩ => [some (.ref u), some (.ref 3), some (.int w), some (.int (Int32.ofNat k))]) (Ff := fun ⟨k, G⟩ => G) (P := fun ⟨k, G⟩ => k ≤ 20 ∧ FSX u F G) ?_ (0, G1) (⟨by omega, ((FSX.rf (u := u) (F := F)).tr x2)⟩)
    rintro N5 hN6 ⟨k, G⟩ hi7 ih8
    refine (show Pv _ _ 13 [some (.ref u), some (.ref 3), some (.int w), some (.int (Int32.ofNat k))] [] G Q from ?_)
    obtain ⟨hk, hx⟩ := hi7
    refine Pv.iloadS rfl rfl ?_
    refine Pv.lit rfl ?_
    refine Pv.icmp rfl (fun c9 => ?_) (fun c9 => ?_)
    · skip
      replace c9 := (i_le (a := 20) (b := k) (by omega) (by omega)).mp (of_decide_eq_true c9)
      refine Pv.lit rfl ?_
      exact Pv.zret rfl (by rw [hQ]; exact ⟨⟨_, rfl⟩, hx⟩)
    · skip
      replace c9 := mt (i_le (a := 20) (b := k) (by omega) (by omega)).mpr (of_decide_eq_false c9)
      refine Pv.aload rfl rfl ?_
      refine Pv.getI (z := G.1 3 5) rfl rfl (rfl) ?_
      refine Pv.lit rfl ?_
      refine Pv.icmp rfl (fun c10 => ?_) (fun c10 => ?_)
      · skip
        replace c10 : decide (G.1 3 5 = 77) = false := by simpa using c10
        replace c10 := of_decide_eq_false c10
        refine Pv.lit rfl ?_
        exact Pv.zret rfl (by rw [hQ]; exact ⟨⟨_, rfl⟩, hx⟩)
      · skip
        replace c10 : decide (G.1 3 5 = 77) = true := by simpa using c10
        replace c10 := of_decide_eq_true c10
        refine Pv.aload rfl rfl ?_
        refine Pv.callV (as := [.ref 3]) (rest := []) rfl rfl rfl (fs_step (hx.G hG)) ?_
        rintro _ G11 ⟨rfl, x12⟩
        refine (show Pv _ _ 32 [some (.ref u), some (.ref 3), some (.int w), some (.int (Int32.ofNat k))] [] G11 Q from ?_)
        refine Pv.aload rfl rfl ?_
        refine Pv.aload rfl rfl ?_
        refine Pv.iload rfl rfl ?_
        refine Pv.callV (as := [.ref u, .ref 3, .int w]) (rest := []) rfl rfl rfl (hA u _ w ((hx.tr (FSX.of x12)).G hG) ((hx.tr (FSX.of x12)).O hO)) ?_
        rintro _ G13 ⟨⟨z15, rfl⟩, x14⟩
        refine (show Pv _ _ 38 [some (.ref u), some (.ref 3), some (.int w), some (.int (Int32.ofNat k))] [.int z15] G13 Q from ?_)
        refine Pv.if0 rfl (fun c16 => ?_) (fun c16 => ?_)
        · skip
          replace c16 := of_decide_eq_true c16
          refine Pv.lit rfl ?_
          exact Pv.zret rfl (by rw [hQ]; exact ⟨⟨_, rfl⟩, ((hx.tr (FSX.of x12)).tr x14)⟩)
        · skip
          replace c16 := of_decide_eq_false c16
          refine Pv.aload rfl rfl ?_
          refine Pv.lit rfl ?_
          refine Pv.lit rfl ?_
          refine Pv.lit rfl ?_
          refine Pv.callV (as := [.ref u, .int 77, .int 0, .int 0]) (rest := []) rfl rfl rfl (fs_add (((hx.tr (FSX.of x12)).tr x14).O hO) 77 0 0) ?_
          rintro _ G17 ⟨⟨z19, rfl⟩, x18⟩
          refine (show Pv _ _ 49 [some (.ref u), some (.ref 3), some (.int w), some (.int (Int32.ofNat k))] [.int z19] G17 Q from ?_)
          refine Pv.if0 rfl (fun c20 => ?_) (fun c20 => ?_)
          · skip
            replace c20 : decide (z19 = 0) = false := by simpa using c20
            replace c20 := of_decide_eq_false c20
            refine Pv.iinc (y := Int32.ofNat (k + 1)) (lo' := [some (.ref u), some (.ref 3), some (.int w), some (.int (Int32.ofNat (k + 1)))]) rfl rfl (i_add k 1) rfl ?_
            refine Pv.goto rfl ?_
            exact ih8 (k + 1, G17) (⟨by omega, (((hx.tr (FSX.of x12)).tr x14).tr (FSX.ou x18))⟩)
          · skip
            replace c20 : decide (z19 = 0) = true := by simpa using c20
            replace c20 := of_decide_eq_true c20
            refine Pv.lit rfl ?_
            exact Pv.zret rfl (by rw [hQ]; exact ⟨⟨_, rfl⟩, (((hx.tr (FSX.of x12)).tr x14).tr (FSX.ou x18))⟩)
  · skip
    replace c4 : decide (z3 = 0) = true := by simpa using c4
    replace c4 := of_decide_eq_true c4
    refine Pv.lit rfl ?_
    exact Pv.zret rfl (by rw [hQ]; exact ⟨⟨_, rfl⟩, ((FSX.rf (u := u) (F := F)).tr x2)⟩)
