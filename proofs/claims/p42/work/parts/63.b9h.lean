set_option maxRecDepth 100000 in
set_option maxHeartbeats 4000000 in
theorem c_rload {F : FW} {K : Nat → TT} {mz i r : Nat} {s : PS} {g m q : Nat} (hG : GW F) (hT : TKF F K mz) (h4 : F.1 3 4 = Int32.ofNat (i + 1)) (hi : i + 1 < mz) (hr : 40 ≤ r) (hs : SCF F r s) (hg : s.h 0 = (g : Int)) (hm : s.h 1 = (m : Int)) (hq : s.h 3 = (q : Int)) (hcu : CURF F (K i)) : Pm Z_X7_readLoad [.ref r, .ref 3] F (fun r' F' => LCQ F F' K mz r r' (lnLoad K s i)) := by
  refine Pm.of fun N => ?_
  obtain ⟨Q, hQ⟩ : ∃ Q : Option Value → FW → Prop, Q = (fun r' F' => LCQ F F' K mz r r' (lnLoad K s i)) := ⟨_, rfl⟩
  rw [← hQ]
  have bb := hs.b
  unfold PSB at bb
  have bg : g ≤ 6 := by omega
  have bm : m ≤ 8 := by omega
  have bq : q ≤ 20 := by omega
  refine (show Pv (ab_T (L_X7_readLoad Z_X9_fail Z_X9_takeNumber)) N 0 [some (.ref r), some (.ref 3)] [] F Q from ?_)
  refine Pv.aload rfl rfl ?_
  refine Pv.getI (z := (if s.ld = true then 1 else 0)) rfl rfl (hs.ld) ?_
  refine Pv.if0 rfl (fun c1 => ?_) (fun c1 => ?_)
  · skip
    replace c1 := of_decide_eq_true c1
    refine Pv.aload rfl rfl ?_
    refine Pv.lit rfl ?_
    refine Pv.lit rfl ?_
    refine Pv.callV (as := [.ref 3, .int 1, .int 40]) (rest := []) rfl rfl rfl (c_takeNumber hG hT h4 hi 1 40) ?_
    rintro _ G1 ⟨rfl, hd1x⟩
    have hd1 : RDC F G1 (K (i + 1)) (i + 1) (tnN (K (i + 1)) (1 : Int32).toInt (40 : Int32).toInt) := hd1x
    have gw1 := RCX.G hd1.1 hG
    have tk1 := RCX.TK hd1.1 hT
    have sg1 := (hs).rx hd1.1 hr
    refine (show Pv _ _ 20 [some (.ref r), some (.ref 3)] [.int (b2i (decide (tnN (K (i + 1)) (1 : Int32).toInt (40 : Int32).toInt = 0)))] G1 Q from ?_)
    refine Pv.if0 rfl (fun c2 => ?_) (fun c2 => ?_)
    · skip
      replace c2 : decide (b2i (decide (tnN (K (i + 1)) (1 : Int32).toInt (40 : Int32).toInt = 0)) = 0) = false := by simpa using c2
      replace c2 := of_decide_eq_false c2
      replace c2 := b2n.mp c2
      have ea := of_decide_eq_true c2
      have ka := tnN_k ea
      have ua := tk1.up hi (by rw [ka.1]; decide) (by rw [ka.1]; decide)
      have za : G1.1 3 9 = F.1 3 9 := hd1.ok9 ea
      have va := hd1.2.2.1.2.2.1 ka.1
      refine Pv.aload rfl rfl ?_
      refine Pv.lit rfl ?_
      refine Pv.putI rfl rfl ?_
      refine Pv.aload rfl rfl ?_
      refine Pv.aload rfl rfl ?_
      refine Pv.getI (z := G1.1 3 7) rfl rfl (fp_ne (Or.inl (by omega))) ?_
      refine Pv.putI rfl rfl ?_
      refine Pv.lit rfl ?_
      have l1 : ¬ s.ld = true := ld_0.mp c1
      exact Pv.zret rfl (by rw [hQ]; exact LCQ.ok (by unfold lnLoad; rw [if_neg l1]; exact lnum_y ea) (((CSX.rx CSX.rf hd1.1).p (by omega) hr).p (by omega) hr) ((fp_ne (Or.inl (by omega))).trans ((fp_ne (Or.inl (by omega))).trans (hd1.2.1))) ((fp_ne (Or.inl (by omega))).trans ((fp_ne (Or.inl (by omega))).trans (za))) (sg1.load va) ua)
    · skip
      replace c2 : decide (b2i (decide (tnN (K (i + 1)) (1 : Int32).toInt (40 : Int32).toInt = 0)) = 0) = true := by simpa using c2
      replace c2 := of_decide_eq_true c2
      replace c2 := b2z.mp c2
      refine Pv.lit rfl ?_
      have l1 : ¬ s.ld = true := ld_0.mp c1
      have en := of_decide_eq_false c2
      exact Pv.zret rfl (by rw [hQ]; exact LCQ.bad (by unfold lnLoad; rw [if_neg l1]; exact lnum_n en) (CSX.rx CSX.rf hd1.1) (congrArg Int32.toInt (hd1.bad9 en)) hd1.2.2.1)
  · skip
    replace c1 := of_decide_eq_false c1
    refine Pv.aload rfl rfl ?_
    refine Pv.lit rfl ?_
    refine Pv.callVI (as := [.ref 3, .int 3]) (rest := []) (z := 0) rfl rfl rfl (c_fail (c := 3)) ?_
    have l1 : s.ld = true := Classical.byContradiction fun z => c1 (ld_0.mpr z)
    exact Pv.zret rfl (by rw [hQ]; exact LCQ.fl (c := 3) (j := i) (by unfold lnLoad; rw [if_pos l1]; rfl) CSX.rf hcu)
set_option maxRecDepth 100000 in
set_option maxHeartbeats 4000000 in
theorem c_rgood {F : FW} {K : Nat → TT} {mz i r : Nat} {s : PS} {g m q : Nat} (hG : GW F) (hT : TKF F K mz) (h4 : F.1 3 4 = Int32.ofNat (i + 1)) (hi : i + 1 < mz) (hr : 40 ≤ r) (hs : SCF F r s) (hg : s.h 0 = (g : Int)) (hm : s.h 1 = (m : Int)) (hq : s.h 3 = (q : Int)) (hcu : CURF F (K i)) : Pm Z_X7_readGood [.ref r, .ref 3] F (fun r' F' => LCQ F F' K mz r r' (lnGood K s i)) := by
  refine Pm.of fun N => ?_
  obtain ⟨Q, hQ⟩ : ∃ Q : Option Value → FW → Prop, Q = (fun r' F' => LCQ F F' K mz r r' (lnGood K s i)) := ⟨_, rfl⟩
  rw [← hQ]
  have bb := hs.b
  unfold PSB at bb
  have bg : g ≤ 6 := by omega
  have bm : m ≤ 8 := by omega
  have bq : q ≤ 20 := by omega
  refine (show Pv (ab_T (L_X7_readGood Z_X9_fail Z_X7_takeNewName)) N 0 [some (.ref r), some (.ref 3)] [] F Q from ?_)
  refine Pv.aload rfl rfl ?_
  refine Pv.getI (z := Int32.ofNat g) rfl rfl (hs.at0 hg) ?_
  refine Pv.lit rfl ?_
  refine Pv.icmp rfl (fun c1 => ?_) (fun c1 => ?_)
  · skip
    replace c1 := (i_lt (a := g) (b := 6) (by omega) (by omega)).mp (of_decide_eq_true c1)
    refine Pv.aload rfl rfl ?_
    refine Pv.aload rfl rfl ?_
    refine Pv.callV (as := [.ref r, .ref 3]) (rest := []) rfl rfl rfl (c_tnn hG hT h4 hi hr (hs) hg hm) ?_
    rintro _ G1 ⟨rfl, hd1x⟩
    have hd1 : RDC F G1 (K (i + 1)) (i + 1) (fsc s (K (i + 1))) := hd1x
    have gw1 := RCX.G hd1.1 hG
    have tk1 := RCX.TK hd1.1 hT
    have sg1 := (hs).rx hd1.1 hr
    refine (show Pv _ _ 20 [some (.ref r), some (.ref 3)] [.int (b2i (decide (fsc s (K (i + 1)) = 0)))] G1 Q from ?_)
    refine Pv.if0 rfl (fun c2 => ?_) (fun c2 => ?_)
    · skip
      replace c2 : decide (b2i (decide (fsc s (K (i + 1)) = 0)) = 0) = false := by simpa using c2
      replace c2 := of_decide_eq_false c2
      replace c2 := b2n.mp c2
      have ea := of_decide_eq_true c2
      have ka := fsc_k ea
      have ua := tk1.up hi (by rw [ka]; decide) (by rw [ka]; decide)
      have za : G1.1 3 9 = F.1 3 9 := hd1.ok9 ea
      refine Pv.aload rfl rfl ?_
      refine Pv.getR (v := .ref (r + 1)) rfl rfl (sg1.o 0 (by decide)) ?_
      refine Pv.aload rfl rfl ?_
      refine Pv.getI (z := Int32.ofNat g) rfl rfl (sg1.at0 hg) ?_
      refine Pv.aload rfl rfl ?_
      refine Pv.getL (z := G1.2.2.1 3 8) rfl rfl (rfl) ?_
      refine Pv.lastk (k := g) rfl (i_toNat (by omega)) ?_
      refine Pv.aload rfl rfl ?_
      refine Pv.dup rfl ?_
      refine Pv.getI (z := Int32.ofNat g) rfl rfl ((fpl_i).trans (sg1.at0 hg)) ?_
      refine Pv.lit rfl ?_
      refine Pv.bin (z := Int32.ofNat (g + 1)) rfl (i_add g 1) ?_
      refine Pv.putI rfl rfl ?_
      refine Pv.lit rfl ?_
      exact Pv.zret rfl (by rw [hQ]; exact LCQ.ok (by unfold lnGood; rw [if_neg (by omega)]; exact lnew_y ea) (((CSX.rx CSX.rf hd1.1).pl (by omega) hr).p (by omega) hr) ((fp_ne (Or.inl (by omega))).trans ((fpl_i).trans (hd1.2.1))) ((fp_ne (Or.inl (by omega))).trans ((fpl_i).trans (za))) (sg1.good hg (by omega) (hd1.2.2.1.2.2.2 ka) ((hT.v hi).2 ka)) ua)
    · skip
      replace c2 : decide (b2i (decide (fsc s (K (i + 1)) = 0)) = 0) = true := by simpa using c2
      replace c2 := of_decide_eq_true c2
      replace c2 := b2z.mp c2
      refine Pv.lit rfl ?_
      have en := of_decide_eq_false c2
      exact Pv.zret rfl (by rw [hQ]; exact LCQ.bad (by unfold lnGood; rw [if_neg (by omega)]; exact lnew_n en) (CSX.rx CSX.rf hd1.1) (congrArg Int32.toInt (hd1.bad9 en)) hd1.2.2.1)
  · skip
    replace c1 := mt (i_lt (a := g) (b := 6) (by omega) (by omega)).mpr (of_decide_eq_false c1)
    refine Pv.aload rfl rfl ?_
    refine Pv.lit rfl ?_
    refine Pv.callVI (as := [.ref 3, .int 4]) (rest := []) (z := 0) rfl rfl rfl (c_fail (c := 4)) ?_
    exact Pv.zret rfl (by rw [hQ]; exact LCQ.fl (c := 4) (j := i) (by unfold lnGood; rw [if_pos (by omega)]; rfl) CSX.rf hcu)
set_option maxRecDepth 100000 in
set_option maxHeartbeats 4000000 in
theorem c_rman {F : FW} {K : Nat → TT} {mz i r : Nat} {s : PS} {g m q : Nat} (hG : GW F) (hT : TKF F K mz) (h4 : F.1 3 4 = Int32.ofNat (i + 1)) (hi : i + 1 < mz) (hr : 40 ≤ r) (hs : SCF F r s) (hg : s.h 0 = (g : Int)) (hm : s.h 1 = (m : Int)) (hq : s.h 3 = (q : Int)) (hcu : CURF F (K i)) : Pm Z_X7_readMan [.ref r, .ref 3] F (fun r' F' => LCQ F F' K mz r r' (lnMan K s i)) := by
  refine Pm.of fun N => ?_
  obtain ⟨Q, hQ⟩ : ∃ Q : Option Value → FW → Prop, Q = (fun r' F' => LCQ F F' K mz r r' (lnMan K s i)) := ⟨_, rfl⟩
  rw [← hQ]
  have bb := hs.b
  unfold PSB at bb
  have bg : g ≤ 6 := by omega
  have bm : m ≤ 8 := by omega
  have bq : q ≤ 20 := by omega
  refine (show Pv (ab_T (L_X7_readMan Z_X9_fail Z_X7_takeNewName Z_X9_takeNumber)) N 0 [some (.ref r), some (.ref 3), none, none] [] F Q from ?_)
  refine Pv.aload rfl rfl ?_
  refine Pv.getI (z := Int32.ofNat m) rfl rfl (hs.at1 hm) ?_
  refine Pv.lit rfl ?_
  refine Pv.icmp rfl (fun c1 => ?_) (fun c1 => ?_)
  · skip
    replace c1 := (i_lt (a := m) (b := 8) (by omega) (by omega)).mp (of_decide_eq_true c1)
    refine Pv.aload rfl rfl ?_
    refine Pv.aload rfl rfl ?_
    refine Pv.callV (as := [.ref r, .ref 3]) (rest := []) rfl rfl rfl (c_tnn hG hT h4 hi hr (hs) hg hm) ?_
    rintro _ G1 ⟨rfl, hd1x⟩
    have hd1 : RDC F G1 (K (i + 1)) (i + 1) (fsc s (K (i + 1))) := hd1x
    have gw1 := RCX.G hd1.1 hG
    have tk1 := RCX.TK hd1.1 hT
    have sg1 := (hs).rx hd1.1 hr
    refine (show Pv _ _ 20 [some (.ref r), some (.ref 3), none, none] [.int (b2i (decide (fsc s (K (i + 1)) = 0)))] G1 Q from ?_)
    refine Pv.if0 rfl (fun c2 => ?_) (fun c2 => ?_)
    · skip
      replace c2 : decide (b2i (decide (fsc s (K (i + 1)) = 0)) = 0) = false := by simpa using c2
      replace c2 := of_decide_eq_false c2
      replace c2 := b2n.mp c2
      have ea := of_decide_eq_true c2
      have ka := fsc_k ea
      have ua := tk1.up hi (by rw [ka]; decide) (by rw [ka]; decide)
      have za : G1.1 3 9 = F.1 3 9 := hd1.ok9 ea
      refine Pv.aload rfl rfl ?_
      refine Pv.getL (z := G1.2.2.1 3 8) rfl rfl (rfl) ?_
      refine Pv.lstore (lo' := [some (.ref r), some (.ref 3), some (.long (G1.2.2.1 3 8)), none]) rfl rfl ?_
      refine Pv.aload rfl rfl ?_
      refine Pv.lit rfl ?_
      refine Pv.lit rfl ?_
      refine Pv.callV (as := [.ref 3, .int 0, .int 1]) (rest := []) rfl rfl rfl (c_takeNumber gw1 tk1 hd1.2.1 ua 0 1) ?_
      rintro _ G2 ⟨rfl, hd2x⟩
      have hd2 : RDC G1 G2 (K (i + 2)) (i + 2) (tnN (K (i + 2)) (0 : Int32).toInt (1 : Int32).toInt) := hd2x
      have gw2 := RCX.G hd2.1 gw1
      have tk2 := RCX.TK hd2.1 tk1
      have sg2 := (sg1).rx hd2.1 hr
      refine (show Pv _ _ 36 [some (.ref r), some (.ref 3), some (.long (G1.2.2.1 3 8)), none] [.int (b2i (decide (tnN (K (i + 2)) (0 : Int32).toInt (1 : Int32).toInt = 0)))] G2 Q from ?_)
      refine Pv.if0 rfl (fun c3 => ?_) (fun c3 => ?_)
      · skip
        replace c3 : decide (b2i (decide (tnN (K (i + 2)) (0 : Int32).toInt (1 : Int32).toInt = 0)) = 0) = false := by simpa using c3
        replace c3 := of_decide_eq_false c3
        replace c3 := b2n.mp c3
        have eb := of_decide_eq_true c3
        have kb := tnN_k eb
        have ub := tk2.up ua (by rw [kb.1]; decide) (by rw [kb.1]; decide)
        have zb : G2.1 3 9 = F.1 3 9 := (hd2.ok9 eb).trans za
        have vb := hd2.2.2.1.2.2.1 kb.1
        refine Pv.aload rfl rfl ?_
        refine Pv.getR (v := .ref (r + 2)) rfl rfl (sg2.o 1 (by decide)) ?_
        refine Pv.aload rfl rfl ?_
        refine Pv.getI (z := Int32.ofNat m) rfl rfl (sg2.at1 hm) ?_
        refine Pv.lload rfl rfl ?_
        refine Pv.lastk (k := m) rfl (i_toNat (by omega)) ?_
        refine Pv.aload rfl rfl ?_
        refine Pv.getR (v := .ref (r + 3)) rfl rfl (sg2.o 2 (by decide)) ?_
        refine Pv.aload rfl rfl ?_
        refine Pv.getI (z := Int32.ofNat m) rfl rfl ((fpl_i).trans (sg2.at1 hm)) ?_
        refine Pv.aload rfl rfl ?_
        refine Pv.getI (z := G2.1 3 7) rfl rfl (fpl_i) ?_
        refine Pv.astk (k := m) (z := G2.1 3 7) rfl (i_toNat (by omega)) (rfl) ?_
        refine Pv.aload rfl rfl ?_
        refine Pv.dup rfl ?_
        refine Pv.getI (z := Int32.ofNat m) rfl rfl ((fp_ne (Or.inl (by omega))).trans ((fpl_i).trans (sg2.at1 hm))) ?_
        refine Pv.lit rfl ?_
        refine Pv.bin (z := Int32.ofNat (m + 1)) rfl (i_add m 1) ?_
        refine Pv.putI rfl rfl ?_
        refine Pv.lit rfl ?_
        exact Pv.zret rfl (by rw [hQ]; exact LCQ.ok (lnMan_z (by omega) hm ea eb) ((((CSX.rx (CSX.rx CSX.rf hd1.1) hd2.1).pl (by omega) hr).p (by omega) hr).p (by omega) hr) ((fp_ne (Or.inl (by omega))).trans ((fp_ne (Or.inl (by omega))).trans ((fpl_i).trans (hd2.2.1)))) ((fp_ne (Or.inl (by omega))).trans ((fp_ne (Or.inl (by omega))).trans ((fpl_i).trans (zb)))) (sg2.man hm (by omega) (hd1.2.2.1.2.2.2 ka) ((hT.v hi).2 ka) vb) ub)
      · skip
        replace c3 : decide (b2i (decide (tnN (K (i + 2)) (0 : Int32).toInt (1 : Int32).toInt = 0)) = 0) = true := by simpa using c3
        replace c3 := of_decide_eq_true c3
        replace c3 := b2z.mp c3
        refine Pv.lit rfl ?_
        have en := of_decide_eq_false c3
        exact Pv.zret rfl (by rw [hQ]; exact LCQ.bad (by unfold lnMan; rw [if_neg (by omega), lnew_y ea]; exact lnum_n en) (CSX.rx (CSX.rx CSX.rf hd1.1) hd2.1) (congrArg Int32.toInt (hd2.bad9 en)) hd2.2.2.1)
    · skip
      replace c2 : decide (b2i (decide (fsc s (K (i + 1)) = 0)) = 0) = true := by simpa using c2
      replace c2 := of_decide_eq_true c2
      replace c2 := b2z.mp c2
      refine Pv.lit rfl ?_
      have en := of_decide_eq_false c2
      exact Pv.zret rfl (by rw [hQ]; exact LCQ.bad (by unfold lnMan; rw [if_neg (by omega)]; exact lnew_n en) (CSX.rx CSX.rf hd1.1) (congrArg Int32.toInt (hd1.bad9 en)) hd1.2.2.1)
  · skip
    replace c1 := mt (i_lt (a := m) (b := 8) (by omega) (by omega)).mpr (of_decide_eq_false c1)
    refine Pv.aload rfl rfl ?_
    refine Pv.lit rfl ?_
    refine Pv.callVI (as := [.ref 3, .int 4]) (rest := []) (z := 0) rfl rfl rfl (c_fail (c := 4)) ?_
    exact Pv.zret rfl (by rw [hQ]; exact LCQ.fl (c := 4) (j := i) (by unfold lnMan; rw [if_pos (by omega)]; rfl) CSX.rf hcu)
