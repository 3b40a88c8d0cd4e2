set_option maxRecDepth 100000 in
set_option maxHeartbeats 4000000 in
theorem c_step {F : FW} {T : Nat → TT} {m i : Nat} (hG : GW F) (hT : TKF F T m) (h4 : F.1 3 4 = Int32.ofNat i) (hi : i < m) : Pm Z_X9_step [.ref 3] F (fun r F' => r = none ∧ RDC F F' (T i) i 0) := by
  refine Pm.of fun N => ?_
  obtain ⟨Q, hQ⟩ : ∃ Q : Option Value → FW → Prop, Q = (fun r F' => r = none ∧ RDC F F' (T i) i 0) := ⟨_, rfl⟩
  rw [← hQ]
  have hmb := hT.b
  refine (show Pv (ab_T L_X9_step) N 0 [some (.ref 3)] [] F Q from ?_)
  refine Pv.aload rfl rfl ?_
  refine Pv.getI (z := Int32.ofNat i) rfl rfl (h4) ?_
  refine Pv.aload rfl rfl ?_
  refine Pv.getI (z := Int32.ofNat m) rfl rfl (hT.n) ?_
  refine Pv.icmp rfl (fun c1 => ?_) (fun c1 => ?_)
  · skip
    replace c1 := (i_le (a := m) (b := i) (by omega) (by omega)).mp (of_decide_eq_true c1)
    omega
  · skip
    replace c1 := mt (i_le (a := m) (b := i) (by omega) (by omega)).mpr (of_decide_eq_false c1)
    refine Pv.aload rfl rfl ?_
    refine Pv.getI (z := Int32.ofNat i) rfl rfl (h4) ?_
    refine Pv.lit rfl ?_
    refine Pv.icmp rfl (fun c2 => ?_) (fun c2 => ?_)
    · skip
      replace c2 := (i_le (a := 901) (b := i) (by omega) (by omega)).mp (of_decide_eq_true c2)
      omega
    · skip
      replace c2 := mt (i_le (a := 901) (b := i) (by omega) (by omega)).mpr (of_decide_eq_false c2)
      refine Pv.aload rfl rfl ?_
      refine Pv.aload rfl rfl ?_
      refine Pv.getR (v := .ref 4) rfl rfl (GW.at (a := 3) (k := 0) (b := 4) hG (by decide)) ?_
      refine Pv.aload rfl rfl ?_
      refine Pv.getI (z := Int32.ofNat i) rfl rfl (h4) ?_
      refine Pv.ald (z := F.1 4 i) rfl (by rw [i_toNat (by omega)]) ?_
      refine Pv.putI rfl rfl ?_
      refine Pv.aload rfl rfl ?_
      refine Pv.aload rfl rfl ?_
      refine Pv.getR (v := .ref 5) rfl rfl (GW.at (a := 3) (k := 1) (b := 5) hG (by decide)) ?_
      refine Pv.aload rfl rfl ?_
      refine Pv.getI (z := Int32.ofNat i) rfl rfl ((fp_ne (Or.inr (by decide))).trans (h4)) ?_
      refine Pv.ald (z := F.1 5 i) rfl (by rw [i_toNat (by omega)]; exact fp_ne (Or.inl (by decide))) ?_
      refine Pv.putI rfl rfl ?_
      refine Pv.aload rfl rfl ?_
      refine Pv.aload rfl rfl ?_
      refine Pv.getR (v := .ref 6) rfl rfl (GW.at (a := 3) (k := 2) (b := 6) hG (by decide)) ?_
      refine Pv.aload rfl rfl ?_
      refine Pv.getI (z := Int32.ofNat i) rfl rfl ((fp_ne (Or.inr (by decide))).trans ((fp_ne (Or.inr (by decide))).trans (h4))) ?_
      refine Pv.lald (z := F.2.2.1 6 i) rfl (by rw [i_toNat (by omega)]; exact (fp_l).trans (fp_l)) ?_
      refine Pv.putL rfl rfl ?_
      refine Pv.aload rfl rfl ?_
      refine Pv.aload rfl rfl ?_
      refine Pv.getR (v := .ref 6) rfl rfl (GW.at (a := 3) (k := 2) (b := 6) hG (by decide)) ?_
      refine Pv.aload rfl rfl ?_
      refine Pv.getI (z := Int32.ofNat i) rfl rfl ((fpl_i).trans ((fp_ne (Or.inr (by decide))).trans ((fp_ne (Or.inr (by decide))).trans (h4)))) ?_
      refine Pv.lald (z := F.2.2.1 6 i) rfl (by rw [i_toNat (by omega)]; exact (fpl_ne (Or.inl (by decide))).trans ((fp_l).trans (fp_l))) ?_
      refine Pv.l2i (z := Int64.toInt32 (F.2.2.1 6 i)) rfl (rfl) ?_
      refine Pv.putI rfl rfl ?_
      refine Pv.aload rfl rfl ?_
      refine Pv.dup rfl ?_
      refine Pv.getI (z := Int32.ofNat i) rfl rfl ((fp_ne (Or.inr (by decide))).trans ((fpl_i).trans ((fp_ne (Or.inr (by decide))).trans ((fp_ne (Or.inr (by decide))).trans (h4))))) ?_
      refine Pv.lit rfl ?_
      refine Pv.bin (z := Int32.ofNat (i + 1)) rfl (i_add i 1) ?_
      refine Pv.putI rfl rfl ?_
      obtain ⟨q1, q2, q3, q4, q5⟩ := hT.2.2.2.1 i hi
      exact Pv.vret rfl (by rw [hQ]; exact ⟨rfl, (RCX.fp (RCX.fp (RCX.fl (RCX.fp (RCX.fp RCX.rf (Or.inr (Or.inl rfl))) (Or.inr (Or.inr (Or.inl rfl))))) (Or.inr (Or.inr (Or.inr (Or.inl rfl))))) (Or.inl rfl)), fp_eq, ⟨(congrArg Int32.toInt ((fp_ne (Or.inr (by decide))).trans ((fp_ne (Or.inr (by decide))).trans ((fpl_i).trans ((fp_ne (Or.inr (by decide))).trans (fp_eq)))))).trans q1, (congrArg Int32.toInt ((fp_ne (Or.inr (by decide))).trans ((fp_ne (Or.inr (by decide))).trans ((fpl_i).trans (fp_eq))))).trans q2, fun e => (congrArg Int32.toInt ((fp_ne (Or.inr (by decide))).trans (fp_eq))).trans (l2i_v (q3 e) (q5.1 e)), fun e => (congrArg Int64.toInt ((fp_l).trans ((fp_l).trans (fpl_eq)))).trans (q4 e)⟩, ((fp_ne (Or.inr (by decide))).trans ((fp_ne (Or.inr (by decide))).trans ((fpl_i).trans ((fp_ne (Or.inr (by decide))).trans (fp_ne (Or.inr (by decide))))))).trans (if_pos rfl).symm⟩)
set_option maxRecDepth 100000 in
set_option maxHeartbeats 4000000 in
theorem c_fail {F : FW} {c : Int32} : Pm Z_X9_fail [.ref 3, .int c] F (fun r F' => r = some (.int 0) ∧ F' = fp F 3 9 c) := by
  refine Pm.of fun N => ?_
  obtain ⟨Q, hQ⟩ : ∃ Q : Option Value → FW → Prop, Q = (fun r F' => r = some (.int 0) ∧ F' = fp F 3 9 c) := ⟨_, rfl⟩
  rw [← hQ]
  refine (show Pv (ab_T L_X9_fail) N 0 [some (.ref 3), some (.int c)] [] F Q from ?_)
  refine Pv.aload rfl rfl ?_
  refine Pv.iload rfl rfl ?_
  refine Pv.putI rfl rfl ?_
  refine Pv.lit rfl ?_
  exact Pv.zret rfl (by rw [hQ]; exact ⟨rfl, rfl⟩)
set_option maxRecDepth 100000 in
set_option maxHeartbeats 4000000 in
theorem c_takeSign {F : FW} {T : Nat → TT} {m i : Nat} (hG : GW F) (hT : TKF F T m) (h4 : F.1 3 4 = Int32.ofNat i) (hi : i < m) (x : Int32) : Pm Z_X9_takeSign [.ref 3, .int x] F (fun r F' => r = some (.int (b2i (decide (tnS (T i) x.toInt = 0)))) ∧ RDC F F' (T i) i (tnS (T i) x.toInt)) := by
  refine Pm.of fun N => ?_
  obtain ⟨Q, hQ⟩ : ∃ Q : Option Value → FW → Prop, Q = (fun r F' => r = some (.int (b2i (decide (tnS (T i) x.toInt = 0)))) ∧ RDC F F' (T i) i (tnS (T i) x.toInt)) := ⟨_, rfl⟩
  rw [← hQ]
  refine (show Pv (ab_T (L_X9_takeSign Z_X9_step Z_X9_fail)) N 0 [some (.ref 3), some (.int x)] [] F Q from ?_)
  refine Pv.aload rfl rfl ?_
  refine Pv.callV (as := [.ref 3]) (rest := []) rfl rfl rfl (c_step hG hT h4 hi) ?_
  rintro _ G1 ⟨rfl, hd2⟩
  refine (show Pv _ _ 4 [some (.ref 3), some (.int x)] [] G1 Q from ?_)
  refine Pv.aload rfl rfl ?_
  refine Pv.getI (z := G1.1 3 5) rfl rfl (rfl) ?_
  refine Pv.iload rfl rfl ?_
  refine Pv.icmp rfl (fun c3 => ?_) (fun c3 => ?_)
  · skip
    replace c3 := of_decide_eq_true c3
    refine Pv.lit rfl ?_
    refine Pv.goto rfl ?_
    have ec : tnS (T i) x.toInt = 0 := if_pos ((k_eq hd2.2.2.1.1).mp c3)
    exact Pv.zret rfl (by rw [hQ]; exact ⟨by rw [ec]; rfl, by rw [ec]; exact hd2⟩)
  · skip
    replace c3 := of_decide_eq_false c3
    refine Pv.aload rfl rfl ?_
    refine Pv.lit rfl ?_
    refine Pv.callVI (as := [.ref 3, .int 1]) (rest := []) (z := 0) rfl rfl rfl (c_fail (c := 1)) ?_
    refine Pv.if0 rfl (fun c4 => ?_) (fun c4 => ?_)
    · skip
      replace c4 := (i_eq (a := 0) (b := 0) (by omega) (by omega)).mp (of_decide_eq_true c4)
      refine Pv.lit rfl ?_
      have ec : tnS (T i) x.toInt = 1 := if_neg (fun e => c3 ((k_eq hd2.2.2.1.1).mpr e))
      exact Pv.zret rfl (by rw [hQ]; exact ⟨by rw [ec]; rfl, by rw [ec]; exact RDC.bad hd2 (by decide)⟩)
    · skip
      replace c4 := mt (i_eq (a := 0) (b := 0) (by omega) (by omega)).mpr (of_decide_eq_false c4)
      omega
set_option maxRecDepth 100000 in
set_option maxHeartbeats 4000000 in
theorem c_takeName {F : FW} {T : Nat → TT} {m i : Nat} (hG : GW F) (hT : TKF F T m) (h4 : F.1 3 4 = Int32.ofNat i) (hi : i < m) : Pm Z_X9_takeName [.ref 3] F (fun r F' => r = some (.int (b2i (decide (tnW (T i) = 0)))) ∧ RDC F F' (T i) i (tnW (T i))) := by
  refine Pm.of fun N => ?_
  obtain ⟨Q, hQ⟩ : ∃ Q : Option Value → FW → Prop, Q = (fun r F' => r = some (.int (b2i (decide (tnW (T i) = 0)))) ∧ RDC F F' (T i) i (tnW (T i))) := ⟨_, rfl⟩
  rw [← hQ]
  refine (show Pv (ab_T (L_X9_takeName Z_X9_step Z_X9_fail)) N 0 [some (.ref 3)] [] F Q from ?_)
  refine Pv.aload rfl rfl ?_
  refine Pv.callV (as := [.ref 3]) (rest := []) rfl rfl rfl (c_step hG hT h4 hi) ?_
  rintro _ G1 ⟨rfl, hd2⟩
  refine (show Pv _ _ 4 [some (.ref 3)] [] G1 Q from ?_)
  refine Pv.aload rfl rfl ?_
  refine Pv.getI (z := G1.1 3 5) rfl rfl (rfl) ?_
  refine Pv.lit rfl ?_
  refine Pv.icmp rfl (fun c3 => ?_) (fun c3 => ?_)
  · skip
    replace c3 := of_decide_eq_true c3
    refine Pv.lit rfl ?_
    refine Pv.goto rfl ?_
    have ec : tnW (T i) = 0 := if_pos ((k_eq (x := 2) hd2.2.2.1.1).mp c3)
    exact Pv.zret rfl (by rw [hQ]; exact ⟨by rw [ec]; rfl, by rw [ec]; exact hd2⟩)
  · skip
    replace c3 := of_decide_eq_false c3
    refine Pv.aload rfl rfl ?_
    refine Pv.lit rfl ?_
    refine Pv.callVI (as := [.ref 3, .int 1]) (rest := []) (z := 0) rfl rfl rfl (c_fail (c := 1)) ?_
    refine Pv.if0 rfl (fun c4 => ?_) (fun c4 => ?_)
    · skip
      replace c4 := (i_eq (a := 0) (b := 0) (by omega) (by omega)).mp (of_decide_eq_true c4)
      refine Pv.lit rfl ?_
      have ec : tnW (T i) = 1 := if_neg (fun e => c3 ((k_eq (x := 2) hd2.2.2.1.1).mpr e))
      exact Pv.zret rfl (by rw [hQ]; exact ⟨by rw [ec]; rfl, by rw [ec]; exact RDC.bad hd2 (by decide)⟩)
    · skip
      replace c4 := mt (i_eq (a := 0) (b := 0) (by omega) (by omega)).mpr (of_decide_eq_false c4)
      omega
set_option maxRecDepth 100000 in
set_option maxHeartbeats 4000000 in
theorem c_takeNumber {F : FW} {T : Nat → TT} {m i : Nat} (hG : GW F) (hT : TKF F T m) (h4 : F.1 3 4 = Int32.ofNat i) (hi : i < m) (lo hi2 : Int32) : Pm Z_X9_takeNumber [.ref 3, .int lo, .int hi2] F (fun r F' => r = some (.int (b2i (decide (tnN (T i) lo.toInt hi2.toInt = 0)))) ∧ RDC F F' (T i) i (tnN (T i) lo.toInt hi2.toInt)) := by
  refine Pm.of fun N => ?_
  obtain ⟨Q, hQ⟩ : ∃ Q : Option Value → FW → Prop, Q = (fun r F' => r = some (.int (b2i (decide (tnN (T i) lo.toInt hi2.toInt = 0)))) ∧ RDC F F' (T i) i (tnN (T i) lo.toInt hi2.toInt)) := ⟨_, rfl⟩
  rw [← hQ]
  refine (show Pv (ab_T (L_X9_takeNumber Z_X9_step Z_X9_fail)) N 0 [some (.ref 3), some (.int lo), some (.int hi2)] [] F Q from ?_)
  refine Pv.aload rfl rfl ?_
  refine Pv.callV (as := [.ref 3]) (rest := []) rfl rfl rfl (c_step hG hT h4 hi) ?_
  rintro _ G1 ⟨rfl, hd2⟩
  refine (show Pv _ _ 4 [some (.ref 3), some (.int lo), some (.int hi2)] [] G1 Q from ?_)
  refine Pv.aload rfl rfl ?_
  refine Pv.getI (z := G1.1 3 5) rfl rfl (rfl) ?_
  refine Pv.lit rfl ?_
  refine Pv.icmp rfl (fun c3 => ?_) (fun c3 => ?_)
  · skip
    replace c3 := of_decide_eq_true c3
    refine Pv.aload rfl rfl ?_
    refine Pv.getI (z := G1.1 3 7) rfl rfl (rfl) ?_
    refine Pv.iload rfl rfl ?_
    refine Pv.icmp rfl (fun c4 => ?_) (fun c4 => ?_)
    · skip
      replace c4 := of_decide_eq_true c4
      refine Pv.aload rfl rfl ?_
      refine Pv.lit rfl ?_
      refine Pv.callVI (as := [.ref 3, .int 2]) (rest := []) (z := 0) rfl rfl rfl (c_fail (c := 2)) ?_
      refine Pv.if0 rfl (fun c5 => ?_) (fun c5 => ?_)
      · skip
        replace c5 := (i_eq (a := 0) (b := 0) (by omega) (by omega)).mp (of_decide_eq_true c5)
        refine Pv.lit rfl ?_
        have ec : tnN (T i) lo.toInt hi2.toInt = 2 := by have k3 : (T i).k = 3 := (k_eq (x := 3) hd2.2.2.1.1).mp c3; have q3 := hd2.2.2.1.2.2.1 k3; unfold tnN; rw [if_pos k3]; exact if_pos (by rw [← q3]; exact Or.inl (Int32.lt_iff_toInt_lt.mp c4))
        exact Pv.zret rfl (by rw [hQ]; exact ⟨by rw [ec]; rfl, by rw [ec]; exact RDC.bad hd2 (by decide)⟩)
      · skip
        replace c5 := mt (i_eq (a := 0) (b := 0) (by omega) (by omega)).mpr (of_decide_eq_false c5)
        omega
    · skip
      replace c4 := of_decide_eq_false c4
      refine Pv.aload rfl rfl ?_
      refine Pv.getI (z := G1.1 3 7) rfl rfl (rfl) ?_
      refine Pv.iload rfl rfl ?_
      refine Pv.icmp rfl (fun c6 => ?_) (fun c6 => ?_)
      · skip
        replace c6 := of_decide_eq_true c6
        refine Pv.lit rfl ?_
        refine Pv.goto rfl ?_
        have ec : tnN (T i) lo.toInt hi2.toInt = 0 := by have k3 : (T i).k = 3 := (k_eq (x := 3) hd2.2.2.1.1).mp c3; have q3 := hd2.2.2.1.2.2.1 k3; unfold tnN; rw [if_pos k3, if_neg (fun c => ?_)]; rw [← q3] at c; exact c.elim (fun c => c4 (Int32.lt_iff_toInt_lt.mpr c)) (fun c => absurd (Int32.le_iff_toInt_le.mp c6) (by omega))
        exact Pv.zret rfl (by rw [hQ]; exact ⟨by rw [ec]; rfl, by rw [ec]; exact hd2⟩)
      · skip
        replace c6 := of_decide_eq_false c6
        refine Pv.aload rfl rfl ?_
        refine Pv.lit rfl ?_
        refine Pv.callVI (as := [.ref 3, .int 2]) (rest := []) (z := 0) rfl rfl rfl (c_fail (c := 2)) ?_
        refine Pv.if0 rfl (fun c7 => ?_) (fun c7 => ?_)
        · skip
          replace c7 := (i_eq (a := 0) (b := 0) (by omega) (by omega)).mp (of_decide_eq_true c7)
          refine Pv.lit rfl ?_
          have ec : tnN (T i) lo.toInt hi2.toInt = 2 := by have k3 : (T i).k = 3 := (k_eq (x := 3) hd2.2.2.1.1).mp c3; have q3 := hd2.2.2.1.2.2.1 k3; unfold tnN; rw [if_pos k3]; exact if_pos (by rw [← q3]; exact Or.inr (by have := mt Int32.le_iff_toInt_le.mpr c6; omega))
          exact Pv.zret rfl (by rw [hQ]; exact ⟨by rw [ec]; rfl, by rw [ec]; exact RDC.bad hd2 (by decide)⟩)
        · skip
          replace c7 := mt (i_eq (a := 0) (b := 0) (by omega) (by omega)).mpr (of_decide_eq_false c7)
          omega
  · skip
    replace c3 := of_decide_eq_false c3
    refine Pv.aload rfl rfl ?_
    refine Pv.lit rfl ?_
    refine Pv.callVI (as := [.ref 3, .int 1]) (rest := []) (z := 0) rfl rfl rfl (c_fail (c := 1)) ?_
    have ec : tnN (T i) lo.toInt hi2.toInt = 1 := if_neg (fun e => c3 ((k_eq (x := 3) hd2.2.2.1.1).mpr e))
    exact Pv.zret rfl (by rw [hQ]; exact ⟨by rw [ec]; rfl, by rw [ec]; exact RDC.bad hd2 (by decide)⟩)
