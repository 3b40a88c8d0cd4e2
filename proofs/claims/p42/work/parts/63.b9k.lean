set_option maxRecDepth 100000 in
set_option maxHeartbeats 4000000 in
theorem c_ramt {F : FW} {K : Nat → TT} {mz i r : Nat} {s : PS} {g m q : Nat} (hG : GW F) (hT : TKF F K mz) (h4 : F.1 3 4 = Int32.ofNat (i + 1)) (hi : i + 1 < mz) (hr : 40 ≤ r) (hs : SCF F r s) (hg : s.h 0 = (g : Int)) (hm : s.h 1 = (m : Int)) (hq : s.h 3 = (q : Int)) (hcu : CURF F (K i)) {so : Nat} (hso : so < 4) : Pm Z_X7_readAmount [.ref r, .ref 3, .int (Int32.ofNat so)] F (fun r' F' => LCQ F F' K mz r r' (lnAmt K s i so)) := by
  refine Pm.of fun N => ?_
  obtain ⟨Q, hQ⟩ : ∃ Q : Option Value → FW → Prop, Q = (fun r' F' => LCQ F F' K mz r r' (lnAmt K s i so)) := ⟨_, rfl⟩
  rw [← hQ]
  have bb := hs.b
  unfold PSB at bb
  have bg : g ≤ 6 := by omega
  have bm : m ≤ 8 := by omega
  have bq : q ≤ 20 := by omega
  refine (show Pv (ab_T (L_X7_readAmount Z_X7_takeGood Z_X9_takeNumber Z_X10_slotOf Z_X9_fail)) N 0 [some (.ref r), some (.ref 3), some (.int (Int32.ofNat so)), none, none, none] [] F Q from ?_)
  refine Pv.aload rfl rfl ?_
  refine Pv.aload rfl rfl ?_
  refine Pv.callV (as := [.ref r, .ref 3]) (rest := []) rfl rfl rfl (c_tkg hG hT h4 hi hr (hs) hg hm) ?_
  rintro _ G1 ⟨rfl, hd1x⟩
  have hd1 : RDC F G1 (K (i + 1)) (i + 1) (lkc s.nm 0 g (K (i + 1))) := hd1x
  have gw1 := RCX.G hd1.1 hG
  have tk1 := RCX.TK hd1.1 hT
  have sg1 := (hs).rx hd1.1 hr
  refine (show Pv _ _ 5 [some (.ref r), some (.ref 3), some (.int (Int32.ofNat so)), none, none, none] [.int (tmz s.nm 0 g (K (i + 1)))] G1 Q from ?_)
  refine Pv.istore (lo' := [some (.ref r), some (.ref 3), some (.int (Int32.ofNat so)), some (.int (tmz s.nm 0 g (K (i + 1)))), none, none]) rfl rfl ?_
  refine Pv.iload rfl rfl ?_
  refine Pv.lit rfl ?_
  refine Pv.icmp rfl (fun c1 => ?_) (fun c1 => ?_)
  · skip
    replace c1 := of_decide_eq_true c1
    refine Pv.lit rfl ?_
    have en := (tmz_n (by omega)).mp c1
    exact Pv.zret rfl (by rw [hQ]; exact LCQ.bad (by unfold lnAmt; rw [hg]; exact lold_n (fun _ => rfl) (by omega) en) (CSX.rx CSX.rf hd1.1) (congrArg Int32.toInt (hd1.bad9 en)) hd1.2.2.1)
  · skip
    replace c1 := of_decide_eq_false c1
    have ela : lkc s.nm 0 g (K (i + 1)) = 0 := Classical.byContradiction fun z => c1 ((tmz_n (by omega)).mpr z)
    have ka := (lkc_y (by omega) ela).1
    have ea := ela
    have ua := tk1.up hi (by rw [ka]; decide) (by rw [ka]; decide)
    have za : G1.1 3 9 = F.1 3 9 := hd1.ok9 ea
    obtain ⟨w1, ba, f1, l1⟩ := lold_y (s := s) (o := 0) (fun _ => rfl) (by omega) ea
    rw [tmz_y ka f1]
    refine Pv.aload rfl rfl ?_
    refine Pv.lit rfl ?_
    refine Pv.lit rfl ?_
    refine Pv.callV (as := [.ref 3, .int 0, .int 1]) (rest := []) rfl rfl rfl (c_takeNumber gw1 tk1 hd1.2.1 ua 0 1) ?_
    rintro _ G2 ⟨rfl, hd2x⟩
    have hd2 : RDC G1 G2 (K (i + 2)) (i + 2) (tnN (K (i + 2)) (0 : Int32).toInt (1 : Int32).toInt) := hd2x
    have gw2 := RCX.G hd2.1 gw1
    have tk2 := RCX.TK hd2.1 tk1
    have sg2 := (sg1).rx hd2.1 hr
    refine (show Pv _ _ 17 [some (.ref r), some (.ref 3), some (.int (Int32.ofNat so)), some (.int (Int32.ofNat w1)), none, none] [.int (b2i (decide (tnN (K (i + 2)) (0 : Int32).toInt (1 : Int32).toInt = 0)))] G2 Q from ?_)
    refine Pv.if0 rfl (fun c2 => ?_) (fun c2 => ?_)
    · skip
      replace c2 : decide (b2i (decide (tnN (K (i + 2)) (0 : Int32).toInt (1 : Int32).toInt = 0)) = 0) = false := by simpa using c2
      replace c2 := of_decide_eq_false c2
      replace c2 := b2n.mp c2
      have eb := of_decide_eq_true c2
      have kb := tnN_k eb
      have ub := tk2.up ua (by rw [kb.1]; decide) (by rw [kb.1]; decide)
      have zb : G2.1 3 9 = F.1 3 9 := (hd2.ok9 eb).trans za
      have vb := hd2.2.2.1.2.2.1 kb.1
      have kb1 : 0 ≤ (K (i + 2)).v := kb.2.1
      have kb2 : (K (i + 2)).v ≤ 1 := kb.2.2
      obtain ⟨d, hd⟩ : ∃ d : Nat, (K (i + 2)).v = (d : Int) := ⟨(K (i + 2)).v.toNat, by omega⟩
      have d1 : d ≤ 1 := by omega
      have e7 : G2.1 3 7 = Int32.ofNat d := by have := i_ofv vb kb1; rw [this, hd]; rfl
      refine Pv.iload rfl rfl ?_
      refine Pv.lit rfl ?_
      refine Pv.bin (z := Int32.ofNat (so * 12)) rfl (i_mul so 12) ?_
      refine Pv.iload rfl rfl ?_
      refine Pv.aload rfl rfl ?_
      refine Pv.getI (z := Int32.ofNat d) rfl rfl (e7) ?_
      refine Pv.callI (as := [.int (Int32.ofNat w1), .int (Int32.ofNat d)]) (rest := [.int (Int32.ofNat (so * 12))]) (z := Int32.ofNat ((2 * w1) + d)) rfl rfl rfl (f_slotOf (g := w1) (s := d)) ?_
      refine Pv.bin (z := Int32.ofNat ((so * 12) + ((2 * w1) + d))) rfl (i_add (so * 12) ((2 * w1) + d)) ?_
      refine Pv.istore (lo' := [some (.ref r), some (.ref 3), some (.int (Int32.ofNat so)), some (.int (Int32.ofNat w1)), some (.int (Int32.ofNat ((so * 12) + ((2 * w1) + d)))), none]) rfl rfl ?_
      refine Pv.aload rfl rfl ?_
      refine Pv.getL (z := G2.2.2.1 r 12) rfl rfl (rfl) ?_
      refine Pv.lit rfl ?_
      refine Pv.iload rfl rfl ?_
      refine Pv.lsh (z := 1 <<< (Int32.toInt64 (Int32.ofNat ((so * 12) + ((2 * w1) + d))) &&& 63)) rfl (rfl) ?_
      refine Pv.lbin (z := (G2.2.2.1 r 12) &&& (1 <<< (Int32.toInt64 (Int32.ofNat ((so * 12) + ((2 * w1) + d))) &&& 63))) rfl (rfl) ?_
      refine Pv.lit rfl ?_
      refine Pv.lcmp (z := lg_cmp ((G2.2.2.1 r 12) &&& (1 <<< (Int32.toInt64 (Int32.ofNat ((so * 12) + ((2 * w1) + d))) &&& 63))) 0) rfl (rfl) ?_
      refine Pv.if0 rfl (fun c3 => ?_) (fun c3 => ?_)
      · skip
        replace c3 := of_decide_eq_true c3
        have ht : ¬ s.tl (12 * so + (2 * w1 + d)) = true := by have z := (lb_and (A := G2.2.2.1 r 12) (y := Int32.ofNat ((so * 12) + ((2 * w1) + d))) (i := ((so * 12) + ((2 * w1) + d))) (i_toInt (by omega)) (by omega)).mp (lcmp_0.mp c3); rw [sg2.tl (by omega), show ((so * 12) + ((2 * w1) + d)) = 12 * so + (2 * w1 + d) by omega] at z; rw [z]; decide
        refine Pv.iload rfl rfl ?_
        refine Pv.lit rfl ?_
        refine Pv.icmp rfl (fun c4 => ?_) (fun c4 => ?_)
        · skip
          replace c4 := (i_eq (a := so) (b := 2) (by omega) (by omega)).mp (of_decide_eq_true c4)
          refine Pv.lit rfl ?_
          refine Pv.goto rfl ?_
          refine Pv.istore (lo' := [some (.ref r), some (.ref 3), some (.int (Int32.ofNat so)), some (.int (Int32.ofNat w1)), some (.int (Int32.ofNat ((so * 12) + ((2 * w1) + d)))), some (.int 1)]) rfl rfl ?_
          refine Pv.aload rfl rfl ?_
          refine Pv.lit rfl ?_
          refine Pv.iload rfl rfl ?_
          refine Pv.if0 rfl (fun c5 => ?_) (fun c5 => ?_)
          · skip
            replace c5 := (i_eq (a := 1) (b := 0) (by omega) (by omega)).mp (of_decide_eq_true c5)
            omega
          · skip
            replace c5 := mt (i_eq (a := 1) (b := 0) (by omega) (by omega)).mpr (of_decide_eq_false c5)
            refine Pv.lit rfl ?_
            refine Pv.goto rfl ?_
            refine Pv.callV (as := [.ref 3, .int 0, .int 20]) (rest := []) rfl rfl rfl (c_takeNumber gw2 tk2 hd2.2.1 ub 0 20) ?_
            rintro _ G3 ⟨rfl, hd3x⟩
            have hd3 : RDC G2 G3 (K (i + 3)) (i + 3) (tnN (K (i + 3)) (0 : Int32).toInt (20 : Int32).toInt) := hd3x
            have gw3 := RCX.G hd3.1 gw2
            have tk3 := RCX.TK hd3.1 tk2
            have sg3 := (sg2).rx hd3.1 hr
            refine (show Pv _ _ 92 [some (.ref r), some (.ref 3), some (.int (Int32.ofNat so)), some (.int (Int32.ofNat w1)), some (.int (Int32.ofNat ((so * 12) + ((2 * w1) + d)))), some (.int 1)] [.int (b2i (decide (tnN (K (i + 3)) (0 : Int32).toInt (20 : Int32).toInt = 0)))] G3 Q from ?_)
            refine Pv.if0 rfl (fun c6 => ?_) (fun c6 => ?_)
            · skip
              replace c6 : decide (b2i (decide (tnN (K (i + 3)) (0 : Int32).toInt (20 : Int32).toInt = 0)) = 0) = false := by simpa using c6
              replace c6 := of_decide_eq_false c6
              replace c6 := b2n.mp c6
              have ec := of_decide_eq_true c6
              have kc := tnN_k ec
              have uc := tk3.up ub (by rw [kc.1]; decide) (by rw [kc.1]; decide)
              have zc : G3.1 3 9 = F.1 3 9 := (hd3.ok9 ec).trans zb
              have vc := hd3.2.2.1.2.2.1 kc.1
              refine Pv.aload rfl rfl ?_
              refine Pv.dup rfl ?_
              refine Pv.getL (z := G3.2.2.1 r 12) rfl rfl (rfl) ?_
              refine Pv.lit rfl ?_
              refine Pv.iload rfl rfl ?_
              refine Pv.lsh (z := 1 <<< (Int32.toInt64 (Int32.ofNat ((so * 12) + ((2 * w1) + d))) &&& 63)) rfl (rfl) ?_
              refine Pv.lbin (z := (G3.2.2.1 r 12) ||| (1 <<< (Int32.toInt64 (Int32.ofNat ((so * 12) + ((2 * w1) + d))) &&& 63))) rfl (rfl) ?_
              refine Pv.putL rfl rfl ?_
              refine Pv.aload rfl rfl ?_
              refine Pv.getR (v := .ref (r + 4)) rfl rfl (sg3.o 3 (by decide)) ?_
              refine Pv.iload rfl rfl ?_
              refine Pv.aload rfl rfl ?_
              refine Pv.getI (z := G3.1 3 7) rfl rfl (fpl_i) ?_
              refine Pv.astk (k := (so * 12) + ((2 * w1) + d)) (z := G3.1 3 7) rfl (i_toNat (by omega)) (rfl) ?_
              refine Pv.lit rfl ?_
              exact Pv.zret rfl (by rw [hQ]; exact LCQ.ok (((lnAmt_p (b := 20) hg l1 kb.1 hd d1 ht (if_pos (by omega)) rfl).trans (lnum_y ec)).trans (by rw [show 12 * so + (2 * w1 + d) = ((so * 12) + ((2 * w1) + d)) by omega])) (((CSX.rx (CSX.rx (CSX.rx CSX.rf hd1.1) hd2.1) hd3.1).pl (by omega) hr).p (by omega) hr) ((fp_ne (Or.inl (by omega))).trans ((fpl_i).trans (hd3.2.1))) ((fp_ne (Or.inl (by omega))).trans ((fpl_i).trans (zc))) (sg3.amt (x := ((so * 12) + ((2 * w1) + d))) (by omega) (fun k hk => lb_or (i_toInt (by omega)) (by omega) hk) vc) uc)
            · skip
              replace c6 : decide (b2i (decide (tnN (K (i + 3)) (0 : Int32).toInt (20 : Int32).toInt = 0)) = 0) = true := by simpa using c6
              replace c6 := of_decide_eq_true c6
              replace c6 := b2z.mp c6
              refine Pv.lit rfl ?_
              have en := of_decide_eq_false c6
              exact Pv.zret rfl (by rw [hQ]; exact LCQ.bad ((lnAmt_p (b := 20) hg l1 kb.1 hd d1 ht (if_pos (by omega)) rfl).trans (lnum_n en)) (CSX.rx (CSX.rx (CSX.rx CSX.rf hd1.1) hd2.1) hd3.1) (congrArg Int32.toInt (hd3.bad9 en)) hd3.2.2.1)
        · skip
          replace c4 := mt (i_eq (a := so) (b := 2) (by omega) (by omega)).mpr (of_decide_eq_false c4)
          refine Pv.iload rfl rfl ?_
          refine Pv.lit rfl ?_
          refine Pv.icmp rfl (fun c7 => ?_) (fun c7 => ?_)
          · skip
            replace c7 : decide (Int32.ofNat so = 3) = false := by simpa using c7
            replace c7 := mt (i_eq (a := so) (b := 3) (by omega) (by omega)).mpr (of_decide_eq_false c7)
            refine Pv.lit rfl ?_
            refine Pv.istore (lo' := [some (.ref r), some (.ref 3), some (.int (Int32.ofNat so)), some (.int (Int32.ofNat w1)), some (.int (Int32.ofNat ((so * 12) + ((2 * w1) + d)))), some (.int 0)]) rfl rfl ?_
            refine Pv.aload rfl rfl ?_
            refine Pv.lit rfl ?_
            refine Pv.iload rfl rfl ?_
            refine Pv.if0 rfl (fun c8 => ?_) (fun c8 => ?_)
            · skip
              replace c8 := (i_eq (a := 0) (b := 0) (by omega) (by omega)).mp (of_decide_eq_true c8)
              refine Pv.lit rfl ?_
              refine Pv.callV (as := [.ref 3, .int 0, .int 250]) (rest := []) rfl rfl rfl (c_takeNumber gw2 tk2 hd2.2.1 ub 0 250) ?_
              rintro _ G3 ⟨rfl, hd3x⟩
              have hd3 : RDC G2 G3 (K (i + 3)) (i + 3) (tnN (K (i + 3)) (0 : Int32).toInt (250 : Int32).toInt) := hd3x
              have gw3 := RCX.G hd3.1 gw2
              have tk3 := RCX.TK hd3.1 tk2
              have sg3 := (sg2).rx hd3.1 hr
              refine (show Pv _ _ 92 [some (.ref r), some (.ref 3), some (.int (Int32.ofNat so)), some (.int (Int32.ofNat w1)), some (.int (Int32.ofNat ((so * 12) + ((2 * w1) + d)))), some (.int 0)] [.int (b2i (decide (tnN (K (i + 3)) (0 : Int32).toInt (250 : Int32).toInt = 0)))] G3 Q from ?_)
              refine Pv.if0 rfl (fun c9 => ?_) (fun c9 => ?_)
              · skip
                replace c9 : decide (b2i (decide (tnN (K (i + 3)) (0 : Int32).toInt (250 : Int32).toInt = 0)) = 0) = false := by simpa using c9
                replace c9 := of_decide_eq_false c9
                replace c9 := b2n.mp c9
                have ec := of_decide_eq_true c9
                have kc := tnN_k ec
                have uc := tk3.up ub (by rw [kc.1]; decide) (by rw [kc.1]; decide)
                have zc : G3.1 3 9 = F.1 3 9 := (hd3.ok9 ec).trans zb
                have vc := hd3.2.2.1.2.2.1 kc.1
                refine Pv.aload rfl rfl ?_
                refine Pv.dup rfl ?_
                refine Pv.getL (z := G3.2.2.1 r 12) rfl rfl (rfl) ?_
                refine Pv.lit rfl ?_
                refine Pv.iload rfl rfl ?_
                refine Pv.lsh (z := 1 <<< (Int32.toInt64 (Int32.ofNat ((so * 12) + ((2 * w1) + d))) &&& 63)) rfl (rfl) ?_
                refine Pv.lbin (z := (G3.2.2.1 r 12) ||| (1 <<< (Int32.toInt64 (Int32.ofNat ((so * 12) + ((2 * w1) + d))) &&& 63))) rfl (rfl) ?_
                refine Pv.putL rfl rfl ?_
                refine Pv.aload rfl rfl ?_
                refine Pv.getR (v := .ref (r + 4)) rfl rfl (sg3.o 3 (by decide)) ?_
                refine Pv.iload rfl rfl ?_
                refine Pv.aload rfl rfl ?_
                refine Pv.getI (z := G3.1 3 7) rfl rfl (fpl_i) ?_
                refine Pv.astk (k := (so * 12) + ((2 * w1) + d)) (z := G3.1 3 7) rfl (i_toNat (by omega)) (rfl) ?_
                refine Pv.lit rfl ?_
                exact Pv.zret rfl (by rw [hQ]; exact LCQ.ok (((lnAmt_p (b := 250) hg l1 kb.1 hd d1 ht (if_neg (by omega)) rfl).trans (lnum_y ec)).trans (by rw [show 12 * so + (2 * w1 + d) = ((so * 12) + ((2 * w1) + d)) by omega])) (((CSX.rx (CSX.rx (CSX.rx CSX.rf hd1.1) hd2.1) hd3.1).pl (by omega) hr).p (by omega) hr) ((fp_ne (Or.inl (by omega))).trans ((fpl_i).trans (hd3.2.1))) ((fp_ne (Or.inl (by omega))).trans ((fpl_i).trans (zc))) (sg3.amt (x := ((so * 12) + ((2 * w1) + d))) (by omega) (fun k hk => lb_or (i_toInt (by omega)) (by omega) hk) vc) uc)
              · skip
                replace c9 : decide (b2i (decide (tnN (K (i + 3)) (0 : Int32).toInt (250 : Int32).toInt = 0)) = 0) = true := by simpa using c9
                replace c9 := of_decide_eq_true c9
                replace c9 := b2z.mp c9
                refine Pv.lit rfl ?_
                have en := of_decide_eq_false c9
                exact Pv.zret rfl (by rw [hQ]; exact LCQ.bad ((lnAmt_p (b := 250) hg l1 kb.1 hd d1 ht (if_neg (by omega)) rfl).trans (lnum_n en)) (CSX.rx (CSX.rx (CSX.rx CSX.rf hd1.1) hd2.1) hd3.1) (congrArg Int32.toInt (hd3.bad9 en)) hd3.2.2.1)
            · skip
              replace c8 := mt (i_eq (a := 0) (b := 0) (by omega) (by omega)).mpr (of_decide_eq_false c8)
              omega
          · skip
            replace c7 : decide (Int32.ofNat so = 3) = true := by simpa using c7
            replace c7 := (i_eq (a := so) (b := 3) (by omega) (by omega)).mp (of_decide_eq_true c7)
            refine Pv.lit rfl ?_
            refine Pv.goto rfl ?_
            refine Pv.istore (lo' := [some (.ref r), some (.ref 3), some (.int (Int32.ofNat so)), some (.int (Int32.ofNat w1)), some (.int (Int32.ofNat ((so * 12) + ((2 * w1) + d)))), some (.int 1)]) rfl rfl ?_
            refine Pv.aload rfl rfl ?_
            refine Pv.lit rfl ?_
            refine Pv.iload rfl rfl ?_
            refine Pv.if0 rfl (fun c10 => ?_) (fun c10 => ?_)
            · skip
              replace c10 := (i_eq (a := 1) (b := 0) (by omega) (by omega)).mp (of_decide_eq_true c10)
              omega
            · skip
              replace c10 := mt (i_eq (a := 1) (b := 0) (by omega) (by omega)).mpr (of_decide_eq_false c10)
              refine Pv.lit rfl ?_
              refine Pv.goto rfl ?_
              refine Pv.callV (as := [.ref 3, .int 0, .int 20]) (rest := []) rfl rfl rfl (c_takeNumber gw2 tk2 hd2.2.1 ub 0 20) ?_
              rintro _ G3 ⟨rfl, hd3x⟩
              have hd3 : RDC G2 G3 (K (i + 3)) (i + 3) (tnN (K (i + 3)) (0 : Int32).toInt (20 : Int32).toInt) := hd3x
              have gw3 := RCX.G hd3.1 gw2
              have tk3 := RCX.TK hd3.1 tk2
              have sg3 := (sg2).rx hd3.1 hr
              refine (show Pv _ _ 92 [some (.ref r), some (.ref 3), some (.int (Int32.ofNat so)), some (.int (Int32.ofNat w1)), some (.int (Int32.ofNat ((so * 12) + ((2 * w1) + d)))), some (.int 1)] [.int (b2i (decide (tnN (K (i + 3)) (0 : Int32).toInt (20 : Int32).toInt = 0)))] G3 Q from ?_)
              refine Pv.if0 rfl (fun c11 => ?_) (fun c11 => ?_)
              · skip
                replace c11 : decide (b2i (decide (tnN (K (i + 3)) (0 : Int32).toInt (20 : Int32).toInt = 0)) = 0) = false := by simpa using c11
                replace c11 := of_decide_eq_false c11
                replace c11 := b2n.mp c11
                have ec := of_decide_eq_true c11
                have kc := tnN_k ec
                have uc := tk3.up ub (by rw [kc.1]; decide) (by rw [kc.1]; decide)
                have zc : G3.1 3 9 = F.1 3 9 := (hd3.ok9 ec).trans zb
                have vc := hd3.2.2.1.2.2.1 kc.1
                refine Pv.aload rfl rfl ?_
                refine Pv.dup rfl ?_
                refine Pv.getL (z := G3.2.2.1 r 12) rfl rfl (rfl) ?_
                refine Pv.lit rfl ?_
                refine Pv.iload rfl rfl ?_
                refine Pv.lsh (z := 1 <<< (Int32.toInt64 (Int32.ofNat ((so * 12) + ((2 * w1) + d))) &&& 63)) rfl (rfl) ?_
                refine Pv.lbin (z := (G3.2.2.1 r 12) ||| (1 <<< (Int32.toInt64 (Int32.ofNat ((so * 12) + ((2 * w1) + d))) &&& 63))) rfl (rfl) ?_
                refine Pv.putL rfl rfl ?_
                refine Pv.aload rfl rfl ?_
                refine Pv.getR (v := .ref (r + 4)) rfl rfl (sg3.o 3 (by decide)) ?_
                refine Pv.iload rfl rfl ?_
                refine Pv.aload rfl rfl ?_
                refine Pv.getI (z := G3.1 3 7) rfl rfl (fpl_i) ?_
                refine Pv.astk (k := (so * 12) + ((2 * w1) + d)) (z := G3.1 3 7) rfl (i_toNat (by omega)) (rfl) ?_
                refine Pv.lit rfl ?_
                exact Pv.zret rfl (by rw [hQ]; exact LCQ.ok (((lnAmt_p (b := 20) hg l1 kb.1 hd d1 ht (if_pos (by omega)) rfl).trans (lnum_y ec)).trans (by rw [show 12 * so + (2 * w1 + d) = ((so * 12) + ((2 * w1) + d)) by omega])) (((CSX.rx (CSX.rx (CSX.rx CSX.rf hd1.1) hd2.1) hd3.1).pl (by omega) hr).p (by omega) hr) ((fp_ne (Or.inl (by omega))).trans ((fpl_i).trans (hd3.2.1))) ((fp_ne (Or.inl (by omega))).trans ((fpl_i).trans (zc))) (sg3.amt (x := ((so * 12) + ((2 * w1) + d))) (by omega) (fun k hk => lb_or (i_toInt (by omega)) (by omega) hk) vc) uc)
              · skip
                replace c11 : decide (b2i (decide (tnN (K (i + 3)) (0 : Int32).toInt (20 : Int32).toInt = 0)) = 0) = true := by simpa using c11
                replace c11 := of_decide_eq_true c11
                replace c11 := b2z.mp c11
                refine Pv.lit rfl ?_
                have en := of_decide_eq_false c11
                exact Pv.zret rfl (by rw [hQ]; exact LCQ.bad ((lnAmt_p (b := 20) hg l1 kb.1 hd d1 ht (if_pos (by omega)) rfl).trans (lnum_n en)) (CSX.rx (CSX.rx (CSX.rx CSX.rf hd1.1) hd2.1) hd3.1) (congrArg Int32.toInt (hd3.bad9 en)) hd3.2.2.1)
      · skip
        replace c3 := of_decide_eq_false c3
        have ht : s.tl (12 * so + (2 * w1 + d)) = true := by have z := mt (lb_and (A := G2.2.2.1 r 12) (y := Int32.ofNat ((so * 12) + ((2 * w1) + d))) (i := ((so * 12) + ((2 * w1) + d))) (i_toInt (by omega)) (by omega)).mpr (mt lcmp_0.mpr c3); rw [sg2.tl (by omega), show ((so * 12) + ((2 * w1) + d)) = 12 * so + (2 * w1 + d) by omega] at z; exact Bool.not_eq_false _ |>.mp z
        refine Pv.aload rfl rfl ?_
        refine Pv.lit rfl ?_
        refine Pv.callVI (as := [.ref 3, .int 3]) (rest := []) (z := 0) rfl rfl rfl (c_fail (c := 3)) ?_
        exact Pv.zret rfl (by rw [hQ]; exact LCQ.fl (c := 3) (j := i + 2) (lnAmt_t hg l1 kb.1 hd d1 ht) (CSX.rx (CSX.rx CSX.rf hd1.1) hd2.1) hd2.2.2.1)
    · skip
      replace c2 : decide (b2i (decide (tnN (K (i + 2)) (0 : Int32).toInt (1 : Int32).toInt = 0)) = 0) = true := by simpa using c2
      replace c2 := of_decide_eq_true c2
      replace c2 := b2z.mp c2
      refine Pv.lit rfl ?_
      have en := of_decide_eq_false c2
      exact Pv.zret rfl (by rw [hQ]; exact LCQ.bad (by unfold lnAmt; rw [hg]; exact (l1 _).trans (lnum_n en)) (CSX.rx (CSX.rx CSX.rf hd1.1) hd2.1) (congrArg Int32.toInt (hd2.bad9 en)) hd2.2.2.1)
