set_option maxRecDepth 100000 in
set_option maxHeartbeats 4000000 in
theorem c_takeGood {F : FW} {K : Nat → TT} {m i : Nat} (hG : GW F) (hT : TKF F K m) (h4 : F.1 3 4 = Int32.ofNat i) (hi : i < m) {r : Nat} {E : St} {nm : Nat → Int} (hE : TR F r E) (hN : NMC F r E nm) (hr : 40 ≤ r) : Pm Z_X7_takeGood [.ref r, .ref 3] F (fun r' F' => r' = some (.int (tgz nm (t_g E) (K i))) ∧ RDC F F' (K i) i (tgc nm (t_g E) (K i))) := by
  refine Pm.of fun N => ?_
  obtain ⟨Q, hQ⟩ : ∃ Q : Option Value → FW → Prop, Q = (fun r' F' => r' = some (.int (tgz nm (t_g E) (K i))) ∧ RDC F F' (K i) i (tgc nm (t_g E) (K i))) := ⟨_, rfl⟩
  rw [← hQ]
  refine (show Pv (ab_T (L_X7_takeGood Z_X9_takeName Z_X7_goodNamed Z_X9_fail)) N 0 [some (.ref r), some (.ref 3), none] [] F Q from ?_)
  refine Pv.aload rfl rfl ?_
  refine Pv.callV (as := [.ref 3]) (rest := []) rfl rfl rfl (c_takeName hG hT h4 hi) ?_
  rintro _ G1 ⟨rfl, hd2⟩
  have gw := RCX.G hd2.1 hG
  refine (show Pv _ _ 4 [some (.ref r), some (.ref 3), none] [.int (b2i (decide (tnW (K i) = 0)))] G1 Q from ?_)
  refine Pv.if0 rfl (fun c3 => ?_) (fun c3 => ?_)
  · skip
    replace c3 : decide (b2i (decide (tnW (K i) = 0)) = 0) = false := by simpa using c3
    replace c3 := of_decide_eq_false c3
    replace c3 := b2n.mp c3
    have h0 : tnW (K i) = 0 := (of_decide_eq_true c3)
    have k2 := tnW_k h0
    have hd0 : RDC F G1 (K i) i 0 := by have q := hd2; rw [h0] at q; exact q
    have hE2 := hE.fx (P := fun q => q = 3) hd0.1.1 (fun q h1 h2 (c : q = 3) => by omega)
    have hN2 := hN.fx (P := fun q => q = 3) hd0.1.1 (show ¬ r + 1 = 3 by omega) (show ¬ r + 2 = 3 by omega)
    refine Pv.aload rfl rfl ?_
    refine Pv.aload rfl rfl ?_
    refine Pv.getL (z := G1.2.2.1 3 8) rfl rfl (rfl) ?_
    refine Pv.callVI (as := [.ref r, .long (G1.2.2.1 3 8)]) (rest := []) (z := oN (m_fst (gP nm (K i).v) (t_g E))) rfl rfl rfl (c_goodNamed gw hE2 hN2 (hd0.2.2.1.2.2.2 k2) ((hT.v hi).2 k2)) ?_
    refine Pv.istore (lo' := [some (.ref r), some (.ref 3), some (.int (oN (m_fst (gP nm (K i).v) (t_g E))))]) rfl rfl ?_
    refine Pv.iload rfl rfl ?_
    refine Pv.lit rfl ?_
    refine Pv.icmp rfl (fun c4 => ?_) (fun c4 => ?_)
    · skip
      replace c4 : decide (oN (m_fst (gP nm (K i).v) (t_g E)) = (-1)) = false := by simpa using c4
      replace c4 := of_decide_eq_false c4
      refine Pv.iload rfl rfl ?_
      exact Pv.ret rfl (by rw [hQ]; exact ⟨by rw [show tgz nm (t_g E) (K i) = _ from if_pos h0], by rw [show tgc nm (t_g E) (K i) = 0 from (if_pos h0).trans (if_neg c4)]; exact hd0⟩)
    · skip
      replace c4 : decide (oN (m_fst (gP nm (K i).v) (t_g E)) = (-1)) = true := by simpa using c4
      replace c4 := of_decide_eq_true c4
      refine Pv.aload rfl rfl ?_
      refine Pv.lit rfl ?_
      refine Pv.callVI (as := [.ref 3, .int 3]) (rest := []) (z := 0) rfl rfl rfl (c_fail (c := 3)) ?_
      refine Pv.pop rfl ?_
      refine Pv.iload rfl rfl ?_
      exact Pv.ret rfl (by rw [hQ]; exact ⟨by rw [show tgz nm (t_g E) (K i) = _ from if_pos h0], by rw [show tgc nm (t_g E) (K i) = 3 from (if_pos h0).trans (if_pos c4)]; exact hd0.bad (by decide)⟩)
  · skip
    replace c3 : decide (b2i (decide (tnW (K i) = 0)) = 0) = true := by simpa using c3
    replace c3 := of_decide_eq_true c3
    replace c3 := b2z.mp c3
    refine Pv.lit rfl ?_
    have h1 := (of_decide_eq_false c3)
    exact Pv.ret rfl (by rw [hQ]; exact ⟨by rw [show tgz nm (t_g E) (K i) = -1 from if_neg h1], by rw [show tgc nm (t_g E) (K i) = tnW (K i) from if_neg h1]; exact hd2⟩)
set_option maxRecDepth 100000 in
set_option maxHeartbeats 4000000 in
theorem c_readDeed {F : FW} {K : Nat → TT} {m i c : Nat} (hG : GW F) (hT : TKF F K m) (h4 : F.1 3 4 = Int32.ofNat (i + 1)) (hi : i + 1 < m) (h3 : F.1 36 3 = Int32.ofNat c) (hc40 : c < 40) {r : Nat} {E : St} {nm : Nat → Int} (hE : TR F r E) (hN : NMC F r E nm) (hr : 40 ≤ r) (d : Nat) : Pm Z_X4_readDeed [.ref 36, .ref 3, .ref r, .int (Int32.ofNat d)] F (fun r' F' => LLP F F' K m c r' (ll_deed K nm (t_g E) d i)) := by
  refine Pm.of fun N => ?_
  obtain ⟨Q, hQ⟩ : ∃ Q : Option Value → FW → Prop, Q = (fun r' F' => LLP F F' K m c r' (ll_deed K nm (t_g E) d i)) := ⟨_, rfl⟩
  rw [← hQ]
  have b5 := hE.gb
  refine (show Pv (ab_T (L_X4_readDeed Z_X7_takeGood Z_X9_takeNumber Z_X10_slotOf Z_X4_addLine)) N 0 [some (.ref 36), some (.ref 3), some (.ref r), some (.int (Int32.ofNat d)), none, none] [] F Q from ?_)
  refine Pv.aload rfl rfl ?_
  refine Pv.aload rfl rfl ?_
  refine Pv.callV (as := [.ref r, .ref 3]) (rest := []) rfl rfl rfl (c_takeGood hG hT h4 hi hE hN hr) ?_
  rintro _ G1 ⟨rfl, hd2x⟩
  have hd2 : RDC F G1 (K (i + 1)) (i + 1) (tgc nm (t_g E) (K (i + 1))) := hd2x
  have tk3 := RCX.TK hd2.1 hT
  have gw4 := RCX.G hd2.1 hG
  have hc5 : G1.1 36 3 = Int32.ofNat c := (hd2.1.1.1 36 3 (by decide)).trans h3
  refine (show Pv _ _ 5 [some (.ref 36), some (.ref 3), some (.ref r), some (.int (Int32.ofNat d)), none, none] [.int (tgz nm (t_g E) (K (i + 1)))] G1 Q from ?_)
  refine Pv.istore (lo' := [some (.ref 36), some (.ref 3), some (.ref r), some (.int (Int32.ofNat d)), some (.int (tgz nm (t_g E) (K (i + 1)))), none]) rfl rfl ?_
  refine Pv.iload rfl rfl ?_
  refine Pv.lit rfl ?_
  refine Pv.icmp rfl (fun c6 => ?_) (fun c6 => ?_)
  · skip
    replace c6 := of_decide_eq_true c6
    refine Pv.lit rfl ?_
    have tn := tgd_n (T := K) (d := d) (i := i) (by omega) c6
    exact Pv.zret rfl (by rw [hQ]; exact LLP.mk_n tn.1 (LCX.of hd2.1) (hd2.bad9 tn.2) hd2.2.2.1)
  · skip
    replace c6 := of_decide_eq_false c6
    obtain ⟨g, hg, hgl, hw, hz, hcc⟩ := tgd_y (X := K (i + 1)) (by omega) c6
    have k2 := tnW_k hw
    have ku := hT.up hi (by rw [k2]; decide) (by rw [k2]; decide)
    rw [hz]
    refine Pv.aload rfl rfl ?_
    refine Pv.lit rfl ?_
    refine Pv.lit rfl ?_
    refine Pv.callV (as := [.ref 3, .int 0, .int 1]) (rest := []) rfl rfl rfl (c_takeNumber gw4 tk3 hd2.2.1 ku 0 1) ?_
    rintro _ G7 ⟨rfl, hd8x⟩
    have hd8 : RDC G1 G7 (K (i + 2)) (i + 2) (tnN (K (i + 2)) 0 1) := hd8x
    have tk9 := RCX.TK hd8.1 tk3
    have gw10 := RCX.G hd8.1 gw4
    have hc11 : G7.1 36 3 = Int32.ofNat c := (hd8.1.1.1 36 3 (by decide)).trans hc5
    refine (show Pv _ _ 19 [some (.ref 36), some (.ref 3), some (.ref r), some (.int (Int32.ofNat d)), some (.int (Int32.ofNat g)), none] [.int (b2i (decide (tnN (K (i + 2)) 0 1 = 0)))] G7 Q from ?_)
    refine Pv.if0 rfl (fun c12 => ?_) (fun c12 => ?_)
    · skip
      replace c12 : decide (b2i (decide (tnN (K (i + 2)) 0 1 = 0)) = 0) = false := by simpa using c12
      replace c12 := of_decide_eq_false c12
      replace c12 := b2n.mp c12
      have kn1 := tnN_k (of_decide_eq_true c12)
      have e7 : G7.1 3 7 = Int32.ofNat (K (i + 2)).v.toNat := i_ofv (hd8.2.2.1.2.2.1 kn1.1) (by omega)
      have ku2 := hT.up ku (by rw [kn1.1]; decide) (by rw [kn1.1]; decide)
      refine Pv.iload rfl rfl ?_
      refine Pv.aload rfl rfl ?_
      refine Pv.getI (z := Int32.ofNat ((K (i + 2)).v.toNat)) rfl rfl (e7) ?_
      refine Pv.callI (as := [.int (Int32.ofNat g), .int (Int32.ofNat ((K (i + 2)).v.toNat))]) (rest := []) (z := Int32.ofNat (2 * g + ((K (i + 2)).v.toNat))) rfl rfl rfl (f_slotOf (g := g) (s := (K (i + 2)).v.toNat)) ?_
      refine Pv.istore (lo' := [some (.ref 36), some (.ref 3), some (.ref r), some (.int (Int32.ofNat d)), some (.int (Int32.ofNat g)), some (.int (Int32.ofNat (2 * g + ((K (i + 2)).v.toNat))))]) rfl rfl ?_
      refine Pv.aload rfl rfl ?_
      refine Pv.lit rfl ?_
      refine Pv.lit rfl ?_
      refine Pv.callV (as := [.ref 3, .int 1, .int 250]) (rest := []) rfl rfl rfl (c_takeNumber gw10 tk9 hd8.2.1 ku2 1 250) ?_
      rintro _ G13 ⟨rfl, hd14x⟩
      have hd14 : RDC G7 G13 (K (i + 3)) (i + 3) (tnN (K (i + 3)) 1 250) := hd14x
      have tk15 := RCX.TK hd14.1 tk9
      have gw16 := RCX.G hd14.1 gw10
      have hc17 : G13.1 36 3 = Int32.ofNat c := (hd14.1.1.1 36 3 (by decide)).trans hc11
      refine (show Pv _ _ 43 [some (.ref 36), some (.ref 3), some (.ref r), some (.int (Int32.ofNat d)), some (.int (Int32.ofNat g)), some (.int (Int32.ofNat (2 * g + ((K (i + 2)).v.toNat))))] [.int (b2i (decide (tnN (K (i + 3)) 1 250 = 0)))] G13 Q from ?_)
      refine Pv.if0 rfl (fun c18 => ?_) (fun c18 => ?_)
      · skip
        replace c18 := of_decide_eq_true c18
        replace c18 := b2z.mp c18
        refine Pv.lit rfl ?_
        exact Pv.zret rfl (by rw [hQ]; exact LLP.mk_n (by unfold ll_deed; rw [if_pos hw, hg]; exact (if_pos (of_decide_eq_true c12)).trans (if_neg (of_decide_eq_false c18))) (LCX.tr (LCX.tr (LCX.of hd2.1) (LCX.of hd8.1)) (LCX.of hd14.1)) (hd14.bad9 (of_decide_eq_false c18)) hd14.2.2.1)
      · skip
        replace c18 := of_decide_eq_false c18
        replace c18 := b2n.mp c18
        have kn2 := tnN_k (of_decide_eq_true c18)
        have e8 : G13.1 3 7 = Int32.ofNat (K (i + 3)).v.toNat := i_ofv (hd14.2.2.1.2.2.1 kn2.1) (by omega)
        have ku3 := hT.up ku2 (by rw [kn2.1]; decide) (by rw [kn2.1]; decide)
        refine Pv.aload rfl rfl ?_
        refine Pv.iload rfl rfl ?_
        refine Pv.iload rfl rfl ?_
        refine Pv.aload rfl rfl ?_
        refine Pv.getI (z := Int32.ofNat ((K (i + 3)).v.toNat)) rfl rfl (e8) ?_
        refine Pv.callVI (as := [.ref 36, .int (Int32.ofNat d), .int (Int32.ofNat (2 * g + ((K (i + 2)).v.toNat))), .int (Int32.ofNat ((K (i + 3)).v.toNat))]) (rest := []) (z := 1) rfl rfl rfl (c_addLine gw16 hc17 (by omega) (Int32.ofNat d) (Int32.ofNat (2 * g + ((K (i + 2)).v.toNat))) (Int32.ofNat ((K (i + 3)).v.toNat))) ?_
        refine Pv.if0 rfl (fun c19 => ?_) (fun c19 => ?_)
        · skip
          replace c19 := (i_eq (a := 1) (b := 0) (by omega) (by omega)).mp (of_decide_eq_true c19)
          omega
        · skip
          replace c19 := mt (i_eq (a := 1) (b := 0) (by omega) (by omega)).mpr (of_decide_eq_false c19)
          refine Pv.lit rfl ?_
          refine Pv.goto rfl ?_
          exact Pv.zret rfl (by rw [hQ]; exact LLP.mk_y (by unfold ll_deed; rw [if_pos hw, hg]; exact (if_pos (of_decide_eq_true c12)).trans (if_pos (of_decide_eq_true c18))) (LCX.tr (LCX.tr (LCX.tr (LCX.of hd2.1) (LCX.of hd8.1)) (LCX.of hd14.1)) AL.lcx) (AL.at3.trans hd14.2.1) (AL.at3.trans ((hd14.ok9 (of_decide_eq_true c18)).trans ((hd8.ok9 (of_decide_eq_true c12)).trans (hd2.ok9 hcc)))) AL.lin ku3)
    · skip
      replace c12 : decide (b2i (decide (tnN (K (i + 2)) 0 1 = 0)) = 0) = true := by simpa using c12
      replace c12 := of_decide_eq_true c12
      replace c12 := b2z.mp c12
      refine Pv.lit rfl ?_
      exact Pv.zret rfl (by rw [hQ]; exact LLP.mk_n (by unfold ll_deed; rw [if_pos hw, hg]; exact if_neg (of_decide_eq_false c12)) (LCX.tr (LCX.of hd2.1) (LCX.of hd8.1)) (hd8.bad9 (of_decide_eq_false c12)) hd8.2.2.1)
