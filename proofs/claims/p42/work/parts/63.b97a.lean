set_option maxRecDepth 100000 in
set_option maxHeartbeats 4000000 in
theorem o_lg121y {F : FW} {m n kk : Nat} {S S2 : Sh} {H : Nat → Sh} {a : Int32} (hG : GW F) (hm : m ≤ 8) (hS : SHR F 12 m S) (hS2 : SHR F 20 m S2) (hH : HST F m n H) (h88 : 88 ≤ F.2.2.2.1) (h44 : F.1 44 1 = Int32.ofNat kk) (hkk : kk ≤ 40) (hz : kk = 0 → S2 = S) (N : Nat) : Pv (ab_T (L_X10_log Z_X8_moveInto Z_X4_readText Z_X6_copyFrom Z_X10_judgeLog Z_X6_hungerInAll Z_X2_keep)) N 121 [some (.ref 0), some (.int 1), some (.int a)] [] F (fun r F' => r = some (.int a) ∧ KF (fun q => 12 ≤ q ∧ q ≤ 19) F F' ∧ HK (decide (0 < kk)) F' m n H S ∧ SHR F' 12 m S2) := by
  obtain ⟨Q, hQ⟩ : ∃ Q : Option Value → FW → Prop, Q = (fun r F' => r = some (.int a) ∧ KF (fun q => 12 ≤ q ∧ q ≤ 19) F F' ∧ HK (decide (0 < kk)) F' m n H S ∧ SHR F' 12 m S2) := ⟨_, rfl⟩
  rw [← hQ]
  refine (show Pv (ab_T (L_X10_log Z_X8_moveInto Z_X4_readText Z_X6_copyFrom Z_X10_judgeLog Z_X6_hungerInAll Z_X2_keep)) N 121 [some (.ref 0), some (.int 1), some (.int a)] [] F Q from ?_)
  refine Pv.iload rfl rfl ?_
  refine Pv.lit rfl ?_
  refine Pv.icmp rfl (fun c1 => ?_) (fun c1 => ?_)
  · skip
    replace c1 : decide ((1 : Int32) = 1) = false := by simpa using c1
    replace c1 := mt (i_eq (a := 1) (b := 1) (by omega) (by omega)).mpr (of_decide_eq_false c1)
    omega
  · skip
    replace c1 : decide ((1 : Int32) = 1) = true := by simpa using c1
    replace c1 := (i_eq (a := 1) (b := 1) (by omega) (by omega)).mp (of_decide_eq_true c1)
    refine Pv.aload rfl rfl ?_
    refine Pv.getR (v := .ref 44) rfl rfl (GW.at (a := 0) (k := 12) (b := 44) hG (by decide)) ?_
    refine Pv.lit rfl ?_
    refine Pv.ald (z := Int32.ofNat kk) rfl (h44) ?_
    refine Pv.if0 rfl (fun c2 => ?_) (fun c2 => ?_)
    · skip
      replace c2 := (i_le (a := kk) (b := 0) (by omega) (by omega)).mp (of_decide_eq_true c2)
      refine Pv.iload rfl rfl ?_
      exact Pv.ret rfl (by rw [hQ]; exact ⟨rfl, KF.rf, HK.f hH (decide_eq_false (by omega)), by rw [hz (by omega)]; exact hS⟩)
    · skip
      replace c2 := mt (i_le (a := kk) (b := 0) (by omega) (by omega)).mpr (of_decide_eq_false c2)
      refine Pv.aload rfl rfl ?_
      refine Pv.getR (v := .ref 10) rfl rfl (GW.at (a := 0) (k := 3) (b := 10) hG (by decide)) ?_
      refine Pv.aload rfl rfl ?_
      refine Pv.getR (v := .ref 12) rfl rfl (GW.at (a := 0) (k := 4) (b := 12) hG (by decide)) ?_
      refine Pv.callV (as := [.ref 10, .ref 12]) (rest := []) rfl rfl rfl (f_keep hG hH hS hm h88) ?_
      rintro _ G ⟨rfl, hH2, hK⟩
      have hG2 := hK.gw hH hG h88
      have s20 := hK.sh hH hS2 (by omega) (by omega) h88
      have s12 := hK.sh hH hS (by omega) (by omega) h88
      refine (show Pv _ _ 146 [some (.ref 0), some (.int 1), some (.int a)] [] G Q from ?_)
      refine Pv.aload rfl rfl ?_
      refine Pv.getR (v := .ref 12) rfl rfl (GW.at (a := 0) (k := 4) (b := 12) hG2 (by decide)) ?_
      refine Pv.aload rfl rfl ?_
      refine Pv.getR (v := .ref 20) rfl rfl (GW.at (a := 0) (k := 5) (b := 20) hG2 (by decide)) ?_
      refine Pv.callV (as := [.ref 12, .ref 20]) (rest := []) rfl rfl rfl (f_shCopy s12.o s20 hm (Or.inl (by omega))) ?_
      rintro _ G2 ⟨rfl, x1, s3⟩
      have hG3 := GW.fx hG2 x1
      refine (show Pv _ _ 157 [some (.ref 0), some (.int 1), some (.int a)] [] G2 Q from ?_)
      refine Pv.iload rfl rfl ?_
      exact Pv.ret rfl (by rw [hQ]; exact ⟨rfl, hK.wide.fx x1 (fun q _ c => c), HK.t (hH2.fx x1 (fun q c => by omega)) (decide_eq_true (by omega)), s3⟩)
set_option maxRecDepth 100000 in
set_option maxHeartbeats 4000000 in
theorem o_lg121z {F : FW} {a : Int32} (N : Nat) : Pv (ab_T (L_X10_log Z_X8_moveInto Z_X4_readText Z_X6_copyFrom Z_X10_judgeLog Z_X6_hungerInAll Z_X2_keep)) N 121 [some (.ref 0), some (.int 0), some (.int a)] [] F (fun r F' => r = some (.int a) ∧ F' = F) := by
  obtain ⟨Q, hQ⟩ : ∃ Q : Option Value → FW → Prop, Q = (fun r F' => r = some (.int a) ∧ F' = F) := ⟨_, rfl⟩
  rw [← hQ]
  refine (show Pv (ab_T (L_X10_log Z_X8_moveInto Z_X4_readText Z_X6_copyFrom Z_X10_judgeLog Z_X6_hungerInAll Z_X2_keep)) N 121 [some (.ref 0), some (.int 0), some (.int a)] [] F Q from ?_)
  refine Pv.iload rfl rfl ?_
  refine Pv.lit rfl ?_
  refine Pv.icmp rfl (fun c1 => ?_) (fun c1 => ?_)
  · skip
    replace c1 : decide ((0 : Int32) = 1) = false := by simpa using c1
    replace c1 := mt (i_eq (a := 0) (b := 1) (by omega) (by omega)).mpr (of_decide_eq_false c1)
    refine Pv.iload rfl rfl ?_
    exact Pv.ret rfl (by rw [hQ]; exact ⟨rfl, rfl⟩)
  · skip
    replace c1 : decide ((0 : Int32) = 1) = true := by simpa using c1
    replace c1 := (i_eq (a := 0) (b := 1) (by omega) (by omega)).mp (of_decide_eq_true c1)
    omega
