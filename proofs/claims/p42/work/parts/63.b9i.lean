set_option maxRecDepth 100000 in
set_option maxHeartbeats 4000000 in
theorem c_imt {F : FW} {r : Nat} {s : PS} {g m : Nat} (hs : SCF F r s) (hg : s.h 0 = (g : Int)) (hm : s.h 1 = (m : Int)) {q w1 w2 : Nat} (hq : s.h 3 = (q : Int)) (b1 : w1 < 8) (b2 : w2 < 8) : Pm Z_X7_isMissTold [.ref r, .int (Int32.ofNat w1), .int (Int32.ofNat w2)] F (fun r F' => r = some (.int (b2i (mtold s.h (w1 : Int) (w2 : Int) q))) ∧ F' = F) := by
  refine Pm.of fun N => ?_
  obtain ⟨Q, hQ⟩ : ∃ Q : Option Value → FW → Prop, Q = (fun r F' => r = some (.int (b2i (mtold s.h (w1 : Int) (w2 : Int) q))) ∧ F' = F) := ⟨_, rfl⟩
  rw [← hQ]
  have bb := hs.b
  unfold PSB at bb
  have bg : g ≤ 6 := by omega
  have bm : m ≤ 8 := by omega
  have bq : q ≤ 20 := by omega
  refine (show Pv (ab_T L_X7_isMissTold) N 0 [some (.ref r), some (.int (Int32.ofNat w1)), some (.int (Int32.ofNat w2)), none] [] F Q from ?_)
  refine Pv.lit rfl ?_
  refine Pv.istore (lo' := [some (.ref r), some (.int (Int32.ofNat w1)), some (.int (Int32.ofNat w2)), some (.int 0)]) rfl rfl ?_
  refine Pv.lp (ι := Nat) (lof := fun k => [some (.ref r), some (.int (Int32.ofNat w1)), some (.int (Int32.ofNat w2)), some (.int (Int32.ofNat k))]) (Ff := fun k => F) (P := fun k => k ≤ q ∧ mtold s.h (w1 : Int) (w2 : Int) k = false) ?_ 0 (⟨Nat.zero_le _, rfl⟩)
  rintro N1 hN2 k hi3 ih4
  refine (show Pv _ _ 2 [some (.ref r), some (.int (Int32.ofNat w1)), some (.int (Int32.ofNat w2)), some (.int (Int32.ofNat k))] [] F Q from ?_)
  obtain ⟨hk, hb⟩ := hi3
  refine Pv.iloadS rfl rfl ?_
  refine Pv.aload rfl rfl ?_
  refine Pv.getI (z := Int32.ofNat q) rfl rfl (hs.at3 hq) ?_
  refine Pv.icmp rfl (fun c5 => ?_) (fun c5 => ?_)
  · skip
    replace c5 := (i_le (a := q) (b := k) (by omega) (by omega)).mp (of_decide_eq_true c5)
    refine Pv.lit rfl ?_
    exact Pv.zret rfl (by rw [hQ]; exact ⟨by rw [show q = k by omega, hb]; rfl, rfl⟩)
  · skip
    replace c5 := mt (i_le (a := q) (b := k) (by omega) (by omega)).mpr (of_decide_eq_false c5)
    refine Pv.aload rfl rfl ?_
    refine Pv.getR (v := .ref (r + 5)) rfl rfl (hs.o 4 (by decide)) ?_
    refine Pv.iload rfl rfl ?_
    refine Pv.ald (z := F.1 (r + 5) k) rfl (by rw [i_toNat (by omega)]) ?_
    refine Pv.iload rfl rfl ?_
    refine Pv.icmp rfl (fun c6 => ?_) (fun c6 => ?_)
    · skip
      replace c6 : decide (F.1 (r + 5) k = Int32.ofNat w1) = false := by simpa using c6
      replace c6 := of_decide_eq_false c6
      refine Pv.iinc (y := Int32.ofNat (k + 1)) (lo' := [some (.ref r), some (.int (Int32.ofNat w1)), some (.int (Int32.ofNat w2)), some (.int (Int32.ofNat (k + 1)))]) rfl rfl (i_add k 1) rfl ?_
      refine Pv.goto rfl ?_
      exact ih4 (k + 1) (⟨by omega, mtold_s hb (fun z => c6 ((hs.eq5 (by omega) (by omega)).mpr z.1))⟩)
    · skip
      replace c6 : decide (F.1 (r + 5) k = Int32.ofNat w1) = true := by simpa using c6
      replace c6 := of_decide_eq_true c6
      refine Pv.aload rfl rfl ?_
      refine Pv.getR (v := .ref (r + 6)) rfl rfl (hs.o 5 (by decide)) ?_
      refine Pv.iload rfl rfl ?_
      refine Pv.ald (z := F.1 (r + 6) k) rfl (by rw [i_toNat (by omega)]) ?_
      refine Pv.iload rfl rfl ?_
      refine Pv.icmp rfl (fun c7 => ?_) (fun c7 => ?_)
      · skip
        replace c7 : decide (F.1 (r + 6) k = Int32.ofNat w2) = false := by simpa using c7
        replace c7 := of_decide_eq_false c7
        refine Pv.iinc (y := Int32.ofNat (k + 1)) (lo' := [some (.ref r), some (.int (Int32.ofNat w1)), some (.int (Int32.ofNat w2)), some (.int (Int32.ofNat (k + 1)))]) rfl rfl (i_add k 1) rfl ?_
        refine Pv.goto rfl ?_
        exact ih4 (k + 1) (⟨by omega, mtold_s hb (fun z => c7 ((hs.eq6 (by omega) (by omega)).mpr z.2))⟩)
      · skip
        replace c7 : decide (F.1 (r + 6) k = Int32.ofNat w2) = true := by simpa using c7
        replace c7 := of_decide_eq_true c7
        refine Pv.lit rfl ?_
        exact Pv.zret rfl (by rw [hQ]; exact ⟨by rw [mtold_y (k := k) (by omega) ((hs.eq5 (by omega) (by omega)).mp c6) ((hs.eq6 (by omega) (by omega)).mp c7)]; rfl, rfl⟩)
set_option maxRecDepth 100000 in
set_option maxHeartbeats 4000000 in
theorem c_rmiss {F : FW} {K : Nat → TT} {mz i r : Nat} {s : PS} {g m q : Nat} (hG : GW F) (hT : TKF F K mz) (h4 : F.1 3 4 = Int32.ofNat (i + 1)) (hi : i + 1 < mz) (hr : 40 ≤ r) (hs : SCF F r s) (hg : s.h 0 = (g : Int)) (hm : s.h 1 = (m : Int)) (hq : s.h 3 = (q : Int)) (hcu : CURF F (K i)) : Pm Z_X7_readMisses [.ref r, .ref 3] F (fun r' F' => LCQ F F' K mz r r' (lnMiss K s i)) := by
  refine Pm.of fun N => ?_
  obtain ⟨Q, hQ⟩ : ∃ Q : Option Value → FW → Prop, Q = (fun r' F' => LCQ F F' K mz r r' (lnMiss K s i)) := ⟨_, rfl⟩
  rw [← hQ]
  have bb := hs.b
  unfold PSB at bb
  have bg : g ≤ 6 := by omega
  have bm : m ≤ 8 := by omega
  have bq : q ≤ 20 := by omega
  refine (show Pv (ab_T (L_X7_readMisses Z_X9_fail Z_X7_takeMan Z_X7_isMissTold Z_X9_takeNumber)) N 0 [some (.ref r), some (.ref 3), none, none] [] F Q from ?_)
  refine Pv.aload rfl rfl ?_
  refine Pv.getI (z := Int32.ofNat q) rfl rfl (hs.at3 hq) ?_
  refine Pv.lit rfl ?_
  refine Pv.icmp rfl (fun c1 => ?_) (fun c1 => ?_)
  · skip
    replace c1 := (i_lt (a := q) (b := 20) (by omega) (by omega)).mp (of_decide_eq_true c1)
    refine Pv.aload rfl rfl ?_
    refine Pv.aload rfl rfl ?_
    refine Pv.callV (as := [.ref r, .ref 3]) (rest := []) rfl rfl rfl (c_tkm hG hT h4 hi hr (hs) hg hm) ?_
    rintro _ G1 ⟨rfl, hd1x⟩
    have hd1 : RDC F G1 (K (i + 1)) (i + 1) (lkc s.nm 6 m (K (i + 1))) := hd1x
    have gw1 := RCX.G hd1.1 hG
    have tk1 := RCX.TK hd1.1 hT
    have sg1 := (hs).rx hd1.1 hr
    refine (show Pv _ _ 20 [some (.ref r), some (.ref 3), none, none] [.int (tmz s.nm 6 m (K (i + 1)))] G1 Q from ?_)
    refine Pv.istore (lo' := [some (.ref r), some (.ref 3), some (.int (tmz s.nm 6 m (K (i + 1)))), none]) rfl rfl ?_
    refine Pv.iload rfl rfl ?_
    refine Pv.lit rfl ?_
    refine Pv.icmp rfl (fun c2 => ?_) (fun c2 => ?_)
    · skip
      replace c2 : decide (tmz s.nm 6 m (K (i + 1)) = (-1)) = false := by simpa using c2
      replace c2 := of_decide_eq_false c2
      have ela : lkc s.nm 6 m (K (i + 1)) = 0 := Classical.byContradiction fun z => c2 ((tmz_n bm).mpr z)
      have ka := (lkc_y bm ela).1
      have ea := ela
      have ua := tk1.up hi (by rw [ka]; decide) (by rw [ka]; decide)
      have za : G1.1 3 9 = F.1 3 9 := hd1.ok9 ea
      obtain ⟨w1, bw1, f1, l1⟩ := lold_y (s := s) (o := 6) (fun _ => rfl) bm ea
      rw [tmz_y ka f1]
      refine Pv.aload rfl rfl ?_
      refine Pv.aload rfl rfl ?_
      refine Pv.callV (as := [.ref r, .ref 3]) (rest := []) rfl rfl rfl (c_tkm gw1 tk1 hd1.2.1 ua hr (sg1) hg hm) ?_
      rintro _ G2 ⟨rfl, hd2x⟩
      have hd2 : RDC G1 G2 (K (i + 2)) (i + 2) (lkc s.nm 6 m (K (i + 2))) := hd2x
      have gw2 := RCX.G hd2.1 gw1
      have tk2 := RCX.TK hd2.1 tk1
      have sg2 := (sg1).rx hd2.1 hr
      refine (show Pv _ _ 33 [some (.ref r), some (.ref 3), some (.int (Int32.ofNat w1)), none] [.int (tmz s.nm 6 m (K (i + 2)))] G2 Q from ?_)
      refine Pv.istore (lo' := [some (.ref r), some (.ref 3), some (.int (Int32.ofNat w1)), some (.int (tmz s.nm 6 m (K (i + 2))))]) rfl rfl ?_
      refine Pv.iload rfl rfl ?_
      refine Pv.lit rfl ?_
      refine Pv.icmp rfl (fun c3 => ?_) (fun c3 => ?_)
      · skip
        replace c3 : decide (tmz s.nm 6 m (K (i + 2)) = (-1)) = false := by simpa using c3
        replace c3 := of_decide_eq_false c3
        have elb : lkc s.nm 6 m (K (i + 2)) = 0 := Classical.byContradiction fun z => c3 ((tmz_n bm).mpr z)
        have kb := (lkc_y bm elb).1
        have eb := elb
        have ub := tk2.up ua (by rw [kb]; decide) (by rw [kb]; decide)
        have zb : G2.1 3 9 = F.1 3 9 := (hd2.ok9 eb).trans za
        obtain ⟨w2, bw2, f2, l2⟩ := lold_y (s := s) (o := 6) (fun _ => rfl) bm eb
        rw [tmz_y kb f2]
        refine Pv.iload rfl rfl ?_
        refine Pv.iload rfl rfl ?_
        refine Pv.icmp rfl (fun c4 => ?_) (fun c4 => ?_)
        · skip
          replace c4 := (i_eq (a := w1) (b := w2) (by omega) (by omega)).mp (of_decide_eq_true c4)
          have hM : (w1 : Int) = (w2 : Int) ∨ mtold s.h (w1 : Int) (w2 : Int) q = true := Or.inl (by omega)
          refine Pv.aload rfl rfl ?_
          refine Pv.lit rfl ?_
          refine Pv.callVI (as := [.ref 3, .int 3]) (rest := []) (z := 0) rfl rfl rfl (c_fail (c := 3)) ?_
          exact Pv.zret rfl (by rw [hQ]; exact LCQ.fl (c := 3) (j := i + 2) (lnMiss_t (by omega) hm hq l1 l2 hM) (CSX.rx (CSX.rx CSX.rf hd1.1) hd2.1) hd2.2.2.1)
        · skip
          replace c4 := mt (i_eq (a := w1) (b := w2) (by omega) (by omega)).mpr (of_decide_eq_false c4)
          refine Pv.aload rfl rfl ?_
          refine Pv.iload rfl rfl ?_
          refine Pv.iload rfl rfl ?_
          refine Pv.callVI (as := [.ref r, .int (Int32.ofNat w1), .int (Int32.ofNat w2)]) (rest := []) (z := b2i (mtold s.h (w1 : Int) (w2 : Int) q)) rfl rfl rfl (c_imt sg2 hg hm hq (by omega) (by omega)) ?_
          refine Pv.if0 rfl (fun c5 => ?_) (fun c5 => ?_)
          · skip
            replace c5 := of_decide_eq_true c5
            replace c5 := b2z.mp c5
            have hM : ¬ ((w1 : Int) = (w2 : Int) ∨ mtold s.h (w1 : Int) (w2 : Int) q = true) := fun z => z.elim (fun y => absurd y (by omega)) (fun y => absurd (y.symm.trans c5) (by decide))
            refine Pv.aload rfl rfl ?_
            refine Pv.lit rfl ?_
            refine Pv.lit rfl ?_
            refine Pv.callV (as := [.ref 3, .int 0, .int 60]) (rest := []) rfl rfl rfl (c_takeNumber gw2 tk2 hd2.2.1 ub 0 60) ?_
            rintro _ G3 ⟨rfl, hd3x⟩
            have hd3 : RDC G2 G3 (K (i + 3)) (i + 3) (tnN (K (i + 3)) (0 : Int32).toInt (60 : Int32).toInt) := hd3x
            have gw3 := RCX.G hd3.1 gw2
            have tk3 := RCX.TK hd3.1 tk2
            have sg3 := (sg2).rx hd3.1 hr
            refine (show Pv _ _ 68 [some (.ref r), some (.ref 3), some (.int (Int32.ofNat w1)), some (.int (Int32.ofNat w2))] [.int (b2i (decide (tnN (K (i + 3)) (0 : Int32).toInt (60 : Int32).toInt = 0)))] G3 Q from ?_)
            refine Pv.if0 rfl (fun c6 => ?_) (fun c6 => ?_)
            · skip
              replace c6 : decide (b2i (decide (tnN (K (i + 3)) (0 : Int32).toInt (60 : Int32).toInt = 0)) = 0) = false := by simpa using c6
              replace c6 := of_decide_eq_false c6
              replace c6 := b2n.mp c6
              have ed := of_decide_eq_true c6
              have kd := tnN_k ed
              have ud := tk3.up ub (by rw [kd.1]; decide) (by rw [kd.1]; decide)
              have zd : G3.1 3 9 = F.1 3 9 := (hd3.ok9 ed).trans zb
              have vd := hd3.2.2.1.2.2.1 kd.1
              refine Pv.aload rfl rfl ?_
              refine Pv.getR (v := .ref (r + 5)) rfl rfl (sg3.o 4 (by decide)) ?_
              refine Pv.aload rfl rfl ?_
              refine Pv.getI (z := Int32.ofNat q) rfl rfl (sg3.at3 hq) ?_
              refine Pv.iload rfl rfl ?_
              refine Pv.astk (k := q) (z := Int32.ofNat w1) rfl (i_toNat (by omega)) (rfl) ?_
              refine Pv.aload rfl rfl ?_
              refine Pv.getR (v := .ref (r + 6)) rfl rfl (sg3.o 5 (by decide)) ?_
              refine Pv.aload rfl rfl ?_
              refine Pv.getI (z := Int32.ofNat q) rfl rfl ((fp_ne (Or.inl (by omega))).trans (sg3.at3 hq)) ?_
              refine Pv.iload rfl rfl ?_
              refine Pv.astk (k := q) (z := Int32.ofNat w2) rfl (i_toNat (by omega)) (rfl) ?_
              refine Pv.aload rfl rfl ?_
              refine Pv.getR (v := .ref (r + 7)) rfl rfl (sg3.o 6 (by decide)) ?_
              refine Pv.aload rfl rfl ?_
              refine Pv.getI (z := Int32.ofNat q) rfl rfl ((fp_ne (Or.inl (by omega))).trans ((fp_ne (Or.inl (by omega))).trans (sg3.at3 hq))) ?_
              refine Pv.aload rfl rfl ?_
              refine Pv.getI (z := G3.1 3 7) rfl rfl ((fp_ne (Or.inl (by omega))).trans (fp_ne (Or.inl (by omega)))) ?_
              refine Pv.astk (k := q) (z := G3.1 3 7) rfl (i_toNat (by omega)) (rfl) ?_
              refine Pv.aload rfl rfl ?_
              refine Pv.dup rfl ?_
              refine Pv.getI (z := Int32.ofNat q) rfl rfl ((fp_ne (Or.inl (by omega))).trans ((fp_ne (Or.inl (by omega))).trans ((fp_ne (Or.inl (by omega))).trans (sg3.at3 hq)))) ?_
              refine Pv.lit rfl ?_
              refine Pv.bin (z := Int32.ofNat (q + 1)) rfl (i_add q 1) ?_
              refine Pv.putI rfl rfl ?_
              refine Pv.lit rfl ?_
              exact Pv.zret rfl (by rw [hQ]; exact LCQ.ok (lnMiss_z (by omega) hm hq l1 l2 hM ed) (((((CSX.rx (CSX.rx (CSX.rx CSX.rf hd1.1) hd2.1) hd3.1).p (by omega) hr).p (by omega) hr).p (by omega) hr).p (by omega) hr) ((fp_ne (Or.inl (by omega))).trans ((fp_ne (Or.inl (by omega))).trans ((fp_ne (Or.inl (by omega))).trans ((fp_ne (Or.inl (by omega))).trans (hd3.2.1))))) ((fp_ne (Or.inl (by omega))).trans ((fp_ne (Or.inl (by omega))).trans ((fp_ne (Or.inl (by omega))).trans ((fp_ne (Or.inl (by omega))).trans (zd))))) (sg3.miss hq (by omega) (by omega) (by omega) vd) ud)
            · skip
              replace c6 : decide (b2i (decide (tnN (K (i + 3)) (0 : Int32).toInt (60 : Int32).toInt = 0)) = 0) = true := by simpa using c6
              replace c6 := of_decide_eq_true c6
              replace c6 := b2z.mp c6
              refine Pv.lit rfl ?_
              have en := of_decide_eq_false c6
              exact Pv.zret rfl (by rw [hQ]; exact LCQ.bad (lnMiss_n (by omega) hm hq l1 l2 hM en) (CSX.rx (CSX.rx (CSX.rx CSX.rf hd1.1) hd2.1) hd3.1) (congrArg Int32.toInt (hd3.bad9 en)) hd3.2.2.1)
          · skip
            replace c5 := of_decide_eq_false c5
            replace c5 := b2n.mp c5
            have hM : (w1 : Int) = (w2 : Int) ∨ mtold s.h (w1 : Int) (w2 : Int) q = true := Or.inr c5
            refine Pv.aload rfl rfl ?_
            refine Pv.lit rfl ?_
            refine Pv.callVI (as := [.ref 3, .int 3]) (rest := []) (z := 0) rfl rfl rfl (c_fail (c := 3)) ?_
            exact Pv.zret rfl (by rw [hQ]; exact LCQ.fl (c := 3) (j := i + 2) (lnMiss_t (by omega) hm hq l1 l2 hM) (CSX.rx (CSX.rx CSX.rf hd1.1) hd2.1) hd2.2.2.1)
      · skip
        replace c3 : decide (tmz s.nm 6 m (K (i + 2)) = (-1)) = true := by simpa using c3
        replace c3 := of_decide_eq_true c3
        refine Pv.lit rfl ?_
        have en := (tmz_n bm).mp c3
        exact Pv.zret rfl (by rw [hQ]; exact LCQ.bad (by unfold lnMiss; rw [if_neg (by omega), hm]; exact (l1 _).trans (lold_n (fun _ => rfl) bm en)) (CSX.rx (CSX.rx CSX.rf hd1.1) hd2.1) (congrArg Int32.toInt (hd2.bad9 en)) hd2.2.2.1)
    · skip
      replace c2 : decide (tmz s.nm 6 m (K (i + 1)) = (-1)) = true := by simpa using c2
      replace c2 := of_decide_eq_true c2
      refine Pv.lit rfl ?_
      have en := (tmz_n bm).mp c2
      exact Pv.zret rfl (by rw [hQ]; exact LCQ.bad (by unfold lnMiss; rw [if_neg (by omega), hm]; exact lold_n (fun _ => rfl) bm en) (CSX.rx CSX.rf hd1.1) (congrArg Int32.toInt (hd1.bad9 en)) hd1.2.2.1)
  · skip
    replace c1 := mt (i_lt (a := q) (b := 20) (by omega) (by omega)).mpr (of_decide_eq_false c1)
    refine Pv.aload rfl rfl ?_
    refine Pv.lit rfl ?_
    refine Pv.callVI (as := [.ref 3, .int 4]) (rest := []) (z := 0) rfl rfl rfl (c_fail (c := 4)) ?_
    exact Pv.zret rfl (by rw [hQ]; exact LCQ.fl (c := 4) (j := i) (by unfold lnMiss; rw [if_pos (by omega)]; rfl) CSX.rf hcu)
