set_option maxRecDepth 100000 in
set_option maxHeartbeats 4000000 in
theorem c_goodNamed {F : FW} {r : Nat} {T : St} {nm : Nat → Int} {w : Int64} {v : Int} (hG : GW F) (hT : TR F r T) (hN : NMC F r T nm) (hw : w.toInt = c32 7 v) (hv : LW 7 v) : Pm Z_X7_goodNamed [.ref r, .long w] F (fun r F' => r = some (.int (oN (m_fst (gP nm v) (t_g T)))) ∧ F' = F) := by
  refine Pm.of fun N => ?_
  obtain ⟨Q, hQ⟩ : ∃ Q : Option Value → FW → Prop, Q = (fun r F' => r = some (.int (oN (m_fst (gP nm v) (t_g T)))) ∧ F' = F) := ⟨_, rfl⟩
  rw [← hQ]
  have b3 := hT.mb
  have b4 := hT.nb
  have b5 := hT.gb
  refine (show Pv (ab_T L_X7_goodNamed) N 0 [some (.ref r), some (.long w), none, none] [] F Q from ?_)
  refine Pv.lit rfl ?_
  refine Pv.istore (lo' := [some (.ref r), some (.long w), none, some (.int 0)]) rfl rfl ?_
  refine Pv.lp (ι := Nat) (lof := fun k => [some (.ref r), some (.long w), none, some (.int (Int32.ofNat k))]) (Ff := fun k => F) (P := fun k => k ≤ t_g T ∧ m_fst (gP nm v) k = none) ?_ 0 (⟨Nat.zero_le _, rfl⟩)
  rintro N1 hN2 k hi3 ih4
  refine (show Pv _ _ 2 [some (.ref r), some (.long w), none, some (.int (Int32.ofNat k))] [] F Q from ?_)
  obtain ⟨hk, hb⟩ := hi3
  refine Pv.iloadS rfl rfl ?_
  refine Pv.aload rfl rfl ?_
  refine Pv.getI (z := Int32.ofNat (t_g T)) rfl rfl (hT.g) ?_
  refine Pv.icmp rfl (fun c5 => ?_) (fun c5 => ?_)
  · skip
    replace c5 := (i_le (a := t_g T) (b := k) (by omega) (by omega)).mp (of_decide_eq_true c5)
    refine Pv.lit rfl ?_
    exact Pv.ret rfl (by rw [hQ]; exact ⟨by rw [show t_g T = k by omega, hb]; rfl, rfl⟩)
  · skip
    replace c5 := mt (i_le (a := t_g T) (b := k) (by omega) (by omega)).mpr (of_decide_eq_false c5)
    refine Pv.aload rfl rfl ?_
    refine Pv.getR (v := .ref (r + 1)) rfl rfl (hT.o 0 (by decide)) ?_
    refine Pv.iload rfl rfl ?_
    refine Pv.lald (z := F.2.2.1 (r + 1) k) rfl (by rw [i_toNat (by omega)]) ?_
    refine Pv.lload rfl rfl ?_
    refine Pv.lcmp (z := lg_cmp (F.2.2.1 (r + 1) k) w) rfl (rfl) ?_
    refine Pv.if0 rfl (fun c6 => ?_) (fun c6 => ?_)
    · skip
      replace c6 : decide (lg_cmp (F.2.2.1 (r + 1) k) w = 0) = false := by simpa using c6
      replace c6 := of_decide_eq_false c6
      refine Pv.iinc (y := Int32.ofNat (k + 1)) (lo' := [some (.ref r), some (.long w), none, some (.int (Int32.ofNat (k + 1)))]) rfl rfl (i_add k 1) rfl ?_
      refine Pv.goto rfl ?_
      exact ih4 (k + 1) (⟨by omega, m_fst_n hb (decide_eq_false (fun e => c6 (lcmp_0.mpr ((nm_eq (hN.1 k (by omega)) hw hv).mpr e))))⟩)
    · skip
      replace c6 : decide (lg_cmp (F.2.2.1 (r + 1) k) w = 0) = true := by simpa using c6
      replace c6 := of_decide_eq_true c6
      refine Pv.iload rfl rfl ?_
      exact Pv.ret rfl (by rw [hQ]; exact ⟨by rw [m_fst_e hb (show decide (nm (k) = v) = true from decide_eq_true ((nm_eq (hN.1 k (by omega)) hw hv).mp (lcmp_0.mp c6))) (by omega)]; rfl, rfl⟩)
set_option maxRecDepth 100000 in
set_option maxHeartbeats 4000000 in
theorem c_manNamed {F : FW} {r : Nat} {T : St} {nm : Nat → Int} {w : Int64} {v : Int} (hG : GW F) (hT : TR F r T) (hN : NMC F r T nm) (hw : w.toInt = c32 7 v) (hv : LW 7 v) : Pm Z_X7_manNamed [.ref r, .long w] F (fun r F' => r = some (.int (oN (m_fst (mP nm v) (t_m T)))) ∧ F' = F) := by
  refine Pm.of fun N => ?_
  obtain ⟨Q, hQ⟩ : ∃ Q : Option Value → FW → Prop, Q = (fun r F' => r = some (.int (oN (m_fst (mP nm v) (t_m T)))) ∧ F' = F) := ⟨_, rfl⟩
  rw [← hQ]
  have b3 := hT.mb
  have b4 := hT.nb
  have b5 := hT.gb
  refine (show Pv (ab_T L_X7_manNamed) N 0 [some (.ref r), some (.long w), none, none] [] F Q from ?_)
  refine Pv.lit rfl ?_
  refine Pv.istore (lo' := [some (.ref r), some (.long w), none, some (.int 0)]) rfl rfl ?_
  refine Pv.lp (ι := Nat) (lof := fun k => [some (.ref r), some (.long w), none, some (.int (Int32.ofNat k))]) (Ff := fun k => F) (P := fun k => k ≤ t_m T ∧ m_fst (mP nm v) k = none) ?_ 0 (⟨Nat.zero_le _, rfl⟩)
  rintro N1 hN2 k hi3 ih4
  refine (show Pv _ _ 2 [some (.ref r), some (.long w), none, some (.int (Int32.ofNat k))] [] F Q from ?_)
  obtain ⟨hk, hb⟩ := hi3
  refine Pv.iloadS rfl rfl ?_
  refine Pv.aload rfl rfl ?_
  refine Pv.getI (z := Int32.ofNat (t_m T)) rfl rfl (hT.m) ?_
  refine Pv.icmp rfl (fun c5 => ?_) (fun c5 => ?_)
  · skip
    replace c5 := (i_le (a := t_m T) (b := k) (by omega) (by omega)).mp (of_decide_eq_true c5)
    refine Pv.lit rfl ?_
    exact Pv.ret rfl (by rw [hQ]; exact ⟨by rw [show t_m T = k by omega, hb]; rfl, rfl⟩)
  · skip
    replace c5 := mt (i_le (a := t_m T) (b := k) (by omega) (by omega)).mpr (of_decide_eq_false c5)
    refine Pv.aload rfl rfl ?_
    refine Pv.getR (v := .ref (r + 2)) rfl rfl (hT.o 1 (by decide)) ?_
    refine Pv.iload rfl rfl ?_
    refine Pv.lald (z := F.2.2.1 (r + 2) k) rfl (by rw [i_toNat (by omega)]) ?_
    refine Pv.lload rfl rfl ?_
    refine Pv.lcmp (z := lg_cmp (F.2.2.1 (r + 2) k) w) rfl (rfl) ?_
    refine Pv.if0 rfl (fun c6 => ?_) (fun c6 => ?_)
    · skip
      replace c6 : decide (lg_cmp (F.2.2.1 (r + 2) k) w = 0) = false := by simpa using c6
      replace c6 := of_decide_eq_false c6
      refine Pv.iinc (y := Int32.ofNat (k + 1)) (lo' := [some (.ref r), some (.long w), none, some (.int (Int32.ofNat (k + 1)))]) rfl rfl (i_add k 1) rfl ?_
      refine Pv.goto rfl ?_
      exact ih4 (k + 1) (⟨by omega, m_fst_n hb (decide_eq_false (fun e => c6 (lcmp_0.mpr ((nm_eq (hN.2 k (by omega)) hw hv).mpr e))))⟩)
    · skip
      replace c6 : decide (lg_cmp (F.2.2.1 (r + 2) k) w = 0) = true := by simpa using c6
      replace c6 := of_decide_eq_true c6
      refine Pv.iload rfl rfl ?_
      exact Pv.ret rfl (by rw [hQ]; exact ⟨by rw [m_fst_e hb (show decide (nm (6 + k) = v) = true from decide_eq_true ((nm_eq (hN.2 k (by omega)) hw hv).mp (lcmp_0.mp c6))) (by omega)]; rfl, rfl⟩)
set_option maxRecDepth 100000 in
set_option maxHeartbeats 4000000 in
theorem c_addLine {F : FW} {c : Nat} (hG : GW F) (h3 : F.1 36 3 = Int32.ofNat c) (hc : c < 40) (d w x : Int32) : Pm Z_X4_addLine [.ref 36, .int d, .int w, .int x] F (fun r F' => r = some (.int 1) ∧ F' = AL F c d w x) := by
  refine Pm.of fun N => ?_
  obtain ⟨Q, hQ⟩ : ∃ Q : Option Value → FW → Prop, Q = (fun r F' => r = some (.int 1) ∧ F' = AL F c d w x) := ⟨_, rfl⟩
  rw [← hQ]
  refine (show Pv (ab_T L_X4_addLine) N 0 [some (.ref 36), some (.int d), some (.int w), some (.int x)] [] F Q from ?_)
  refine Pv.aload rfl rfl ?_
  refine Pv.getR (v := .ref 37) rfl rfl (GW.at (a := 36) (k := 0) (b := 37) hG (by decide)) ?_
  refine Pv.aload rfl rfl ?_
  refine Pv.getI (z := Int32.ofNat c) rfl rfl (h3) ?_
  refine Pv.iload rfl rfl ?_
  refine Pv.astk (k := c) (z := d) rfl (i_toNat (by omega)) (rfl) ?_
  refine Pv.aload rfl rfl ?_
  refine Pv.getR (v := .ref 38) rfl rfl (GW.at (a := 36) (k := 1) (b := 38) hG (by decide)) ?_
  refine Pv.aload rfl rfl ?_
  refine Pv.getI (z := Int32.ofNat c) rfl rfl ((fp_ne (Or.inl (by decide))).trans (h3)) ?_
  refine Pv.iload rfl rfl ?_
  refine Pv.astk (k := c) (z := w) rfl (i_toNat (by omega)) (rfl) ?_
  refine Pv.aload rfl rfl ?_
  refine Pv.getR (v := .ref 39) rfl rfl (GW.at (a := 36) (k := 2) (b := 39) hG (by decide)) ?_
  refine Pv.aload rfl rfl ?_
  refine Pv.getI (z := Int32.ofNat c) rfl rfl ((fp_ne (Or.inl (by decide))).trans ((fp_ne (Or.inl (by decide))).trans (h3))) ?_
  refine Pv.iload rfl rfl ?_
  refine Pv.astk (k := c) (z := x) rfl (i_toNat (by omega)) (rfl) ?_
  refine Pv.aload rfl rfl ?_
  refine Pv.dup rfl ?_
  refine Pv.getI (z := Int32.ofNat c) rfl rfl ((fp_ne (Or.inl (by decide))).trans ((fp_ne (Or.inl (by decide))).trans ((fp_ne (Or.inl (by decide))).trans (h3)))) ?_
  refine Pv.lit rfl ?_
  refine Pv.bin (z := Int32.ofNat (c + 1)) rfl (i_add c 1) ?_
  refine Pv.putI rfl rfl ?_
  refine Pv.lit rfl ?_
  exact Pv.zret rfl (by rw [hQ]; exact ⟨rfl, rfl⟩)
set_option maxRecDepth 100000 in
set_option maxHeartbeats 4000000 in
theorem c_readDays {F : FW} {K : Nat → TT} {m i c : Nat} (hG : GW F) (hT : TKF F K m) (h4 : F.1 3 4 = Int32.ofNat (i + 1)) (hi : i + 1 < m) (h3 : F.1 36 3 = Int32.ofNat c) (hc40 : c < 40) : Pm Z_X4_readDays [.ref 36, .ref 3] F (fun r F' => LLP F F' K m c r (ll_days K i)) := by
  refine Pm.of fun N => ?_
  obtain ⟨Q, hQ⟩ : ∃ Q : Option Value → FW → Prop, Q = (fun r F' => LLP F F' K m c r (ll_days K i)) := ⟨_, rfl⟩
  rw [← hQ]
  refine (show Pv (ab_T (L_X4_readDays Z_X9_takeNumber Z_X4_addLine)) N 0 [some (.ref 36), some (.ref 3)] [] F Q from ?_)
  refine Pv.aload rfl rfl ?_
  refine Pv.lit rfl ?_
  refine Pv.lit rfl ?_
  refine Pv.callV (as := [.ref 3, .int 1, .int 60]) (rest := []) rfl rfl rfl (c_takeNumber hG hT h4 hi 1 60) ?_
  rintro _ G1 ⟨rfl, hd2x⟩
  have hd2 : RDC F G1 (K (i + 1)) (i + 1) (tnN (K (i + 1)) 1 60) := hd2x
  have tk3 := RCX.TK hd2.1 hT
  have gw4 := RCX.G hd2.1 hG
  have hc5 : G1.1 36 3 = Int32.ofNat c := (hd2.1.1.1 36 3 (by decide)).trans h3
  refine (show Pv _ _ 7 [some (.ref 36), some (.ref 3)] [.int (b2i (decide (tnN (K (i + 1)) 1 60 = 0)))] G1 Q from ?_)
  refine Pv.if0 rfl (fun c6 => ?_) (fun c6 => ?_)
  · skip
    replace c6 := of_decide_eq_true c6
    replace c6 := b2z.mp c6
    refine Pv.lit rfl ?_
    exact Pv.zret rfl (by rw [hQ]; exact LLP.mk_n (show ll_days K i = ll_n (tnN (K (i + 1)) 1 60) (i + 1) from if_neg (of_decide_eq_false c6)) (LCX.of hd2.1) (hd2.bad9 (of_decide_eq_false c6)) hd2.2.2.1)
  · skip
    replace c6 := of_decide_eq_false c6
    replace c6 := b2n.mp c6
    refine Pv.aload rfl rfl ?_
    refine Pv.lit rfl ?_
    refine Pv.lit rfl ?_
    refine Pv.aload rfl rfl ?_
    refine Pv.getI (z := G1.1 3 7) rfl rfl (rfl) ?_
    refine Pv.callVI (as := [.ref 36, .int 4, .int 0, .int (G1.1 3 7)]) (rest := []) (z := 1) rfl rfl rfl (c_addLine gw4 hc5 (by omega) 4 0 (G1.1 3 7)) ?_
    refine Pv.if0 rfl (fun c7 => ?_) (fun c7 => ?_)
    · skip
      replace c7 := (i_eq (a := 1) (b := 0) (by omega) (by omega)).mp (of_decide_eq_true c7)
      omega
    · skip
      replace c7 := mt (i_eq (a := 1) (b := 0) (by omega) (by omega)).mpr (of_decide_eq_false c7)
      refine Pv.lit rfl ?_
      refine Pv.goto rfl ?_
      have kn := tnN_k (of_decide_eq_true c6)
      have e7 := i_ofv (hd2.2.2.1.2.2.1 kn.1) (by omega)
      have ku := hT.up hi (by rw [kn.1]; decide) (by rw [kn.1]; decide)
      exact Pv.zret rfl (by rw [hQ]; exact LLP.mk_y (show ll_days K i = ll_y 4 0 (K (i + 1)).v.toNat (i + 2) from if_pos (of_decide_eq_true c6)) ((LCX.of hd2.1).tr AL.lcx) (AL.at3.trans hd2.2.1) (AL.at3.trans (hd2.ok9 (of_decide_eq_true c6))) (by rw [e7]; exact AL.lin (d := 4) (w := 0)) ku)
set_option maxRecDepth 100000 in
set_option maxHeartbeats 4000000 in
theorem c_readDeath {F : FW} {K : Nat → TT} {m i c : Nat} (hG : GW F) (hT : TKF F K m) (h4 : F.1 3 4 = Int32.ofNat (i + 1)) (hi : i + 1 < m) (h3 : F.1 36 3 = Int32.ofNat c) (hc40 : c < 40) (w : Nat) : Pm Z_X4_readDeath [.ref 36, .ref 3, .int (Int32.ofNat w)] F (fun r F' => LLP F F' K m c r (ll_death K w i)) := by
  refine Pm.of fun N => ?_
  obtain ⟨Q, hQ⟩ : ∃ Q : Option Value → FW → Prop, Q = (fun r F' => LLP F F' K m c r (ll_death K w i)) := ⟨_, rfl⟩
  rw [← hQ]
  refine (show Pv (ab_T (L_X4_readDeath Z_X9_step Z_X4_addLine Z_X9_fail)) N 0 [some (.ref 36), some (.ref 3), some (.int (Int32.ofNat w))] [] F Q from ?_)
  refine Pv.aload rfl rfl ?_
  refine Pv.callV (as := [.ref 3]) (rest := []) rfl rfl rfl (c_step hG hT h4 hi) ?_
  rintro _ G1 ⟨rfl, hd2x⟩
  have hd2 : RDC F G1 (K (i + 1)) (i + 1) (0) := hd2x
  have tk3 := RCX.TK hd2.1 hT
  have gw4 := RCX.G hd2.1 hG
  have hc5 : G1.1 36 3 = Int32.ofNat c := (hd2.1.1.1 36 3 (by decide)).trans h3
  refine (show Pv _ _ 4 [some (.ref 36), some (.ref 3), some (.int (Int32.ofNat w))] [] G1 Q from ?_)
  refine Pv.aload rfl rfl ?_
  refine Pv.getI (z := G1.1 3 5) rfl rfl (rfl) ?_
  refine Pv.lit rfl ?_
  refine Pv.icmp rfl (fun c6 => ?_) (fun c6 => ?_)
  · skip
    replace c6 : decide (G1.1 3 5 = 75) = false := by simpa using c6
    replace c6 := of_decide_eq_false c6
    refine Pv.aload rfl rfl ?_
    refine Pv.lit rfl ?_
    refine Pv.callVI (as := [.ref 3, .int 1]) (rest := []) (z := 0) rfl rfl rfl (c_fail (c := 1)) ?_
    exact Pv.zret rfl (by rw [hQ]; exact LLP.mk_n (show ll_death K w i = ll_n 1 (i + 1) from if_neg (fun e => c6 ((k_eq (x := 75) hd2.2.2.1.1).mpr e))) (LCX.of (hd2.1.fp (Or.inr (Or.inr (Or.inr (Or.inr rfl)))))) fp_eq hd2.2.2.1.p9)
  · skip
    replace c6 : decide (G1.1 3 5 = 75) = true := by simpa using c6
    replace c6 := of_decide_eq_true c6
    refine Pv.aload rfl rfl ?_
    refine Pv.lit rfl ?_
    refine Pv.iload rfl rfl ?_
    refine Pv.lit rfl ?_
    refine Pv.callVI (as := [.ref 36, .int 3, .int (Int32.ofNat w), .int 0]) (rest := []) (z := 1) rfl rfl rfl (c_addLine gw4 hc5 (by omega) 3 (Int32.ofNat w) 0) ?_
    refine Pv.goto rfl ?_
    have k7 : (K (i + 1)).k = 75 := (k_eq (x := 75) hd2.2.2.1.1).mp c6
    have ku := hT.up hi (by rw [k7]; decide) (by rw [k7]; decide)
    exact Pv.zret rfl (by rw [hQ]; exact LLP.mk_y (show ll_death K w i = ll_y 3 w 0 (i + 2) from if_pos k7) ((LCX.of hd2.1).tr AL.lcx) (AL.at3.trans hd2.2.1) (AL.at3.trans (hd2.ok9 rfl)) (AL.lin (d := 3) (x := 0)) ku)
