set_option maxRecDepth 100000 in
set_option maxHeartbeats 4000000 in
theorem r_logLine {F : FW} {B : Nat → Int} {n lim i : Nat} (hG : GW F) (hT : RTK F B n lim i) {E : St} {nm : Nat → Int} {c : Nat} (hE : XT F E) (h30 : F.1 69 30 = Int32.ofNat c) (hc : c ≤ 40) (hMg : ∀ g, g < t_g E → (F.2.2.1 74 (0 + g)).toInt = nm (0 + g)) (hMm : ∀ g, g < t_m E → (F.2.2.1 74 (6 + g)).toInt = nm (6 + g)) (hR : RWF F) : Pm Z_X11_logLine [.ref 69] F (fun r F' => LRP F F' B n lim c r (ll (tok B n lim) nm (t_g E) (t_m E) c i)) := by
  refine Pm.of fun N => ?_
  obtain ⟨Q, hQ⟩ : ∃ Q : Option Value → FW → Prop, Q = (fun r F' => LRP F F' B n lim c r (ll (tok B n lim) nm (t_g E) (t_m E) c i)) := ⟨_, rfl⟩
  rw [← hQ]
  have b3 := hE.mb
  have b5 := hE.gb
  refine (show Pv (ab_T (L_X11_logLine Z_X11_isWord Z_X11_looksAt Z_X11_bad Z_X11_next Z_X11_takes Z_X11_takesName)) N 0 [some (.ref 69), none, none] [] F Q from ?_)
  refine Pv.lit rfl ?_
  refine Pv.aload rfl rfl ?_
  refine Pv.getI (z := Int32.ofNat c) rfl rfl (h30) ?_
  refine Pv.bin (z := Int32.ofNat (4 * c)) rfl (i_mul 4 c) ?_
  refine Pv.istore (lo' := [some (.ref 69), some (.int (Int32.ofNat (4 * c))), none]) rfl rfl ?_
  refine Pv.aload rfl rfl ?_
  refine Pv.lit rfl ?_
  refine Pv.callVI (as := [.ref 69, .long 114827585545331]) (rest := []) (z := b2i (decide ((tok B n lim i).k = 64 + ((8 : Nat) : Int)))) rfl rfl rfl (r_isWord (j := 8) hT.2.2.2.1 (tok_wok _ _ _ _) (by decide) (by decide +kernel)) ?_
  refine Pv.if0 rfl (fun c1 => ?_) (fun c1 => ?_)
  · skip
    replace c1 := of_decide_eq_true c1
    replace c1 := b2z.mp c1
    refine Pv.aload rfl rfl ?_
    refine Pv.lit rfl ?_
    refine Pv.callVI (as := [.ref 69, .long 422541682035]) (rest := []) (z := b2i (decide ((tok B n lim i).k = 64 + ((9 : Nat) : Int)))) rfl rfl rfl (r_isWord (j := 9) hT.2.2.2.1 (tok_wok _ _ _ _) (by decide) (by decide +kernel)) ?_
    refine Pv.if0 rfl (fun c2 => ?_) (fun c2 => ?_)
    · skip
      replace c2 := of_decide_eq_true c2
      replace c2 := b2z.mp c2
      refine Pv.aload rfl rfl ?_
      refine Pv.lit rfl ?_
      refine Pv.callVI (as := [.ref 69, .long 131260432541043]) (rest := []) (z := b2i (decide ((tok B n lim i).k = 64 + ((10 : Nat) : Int)))) rfl rfl rfl (r_isWord (j := 10) hT.2.2.2.1 (tok_wok _ _ _ _) (by decide) (by decide +kernel)) ?_
      refine Pv.if0 rfl (fun c3 => ?_) (fun c3 => ?_)
      · skip
        replace c3 := of_decide_eq_true c3
        replace c3 := b2z.mp c3
        refine Pv.aload rfl rfl ?_
        refine Pv.lit rfl ?_
        refine Pv.callVI (as := [.ref 69, .long 6578553]) (rest := []) (z := b2i (decide ((tok B n lim i).k = 64 + ((12 : Nat) : Int)))) rfl rfl rfl (r_isWord (j := 12) hT.2.2.2.1 (tok_wok _ _ _ _) (by decide) (by decide +kernel)) ?_
        refine Pv.if0 rfl (fun c4 => ?_) (fun c4 => ?_)
        · skip
          replace c4 := of_decide_eq_true c4
          replace c4 := b2z.mp c4
          refine Pv.lit rfl ?_
          refine Pv.istore (lo' := [some (.ref 69), some (.int (Int32.ofNat (4 * c))), some (.int 3)]) rfl rfl ?_
          refine Pv.iload rfl rfl ?_
          refine Pv.lit rfl ?_
          refine Pv.icmp rfl (fun c5 => ?_) (fun c5 => ?_)
          · skip
            replace c5 : decide ((3 : Int32) = 3) = false := by simpa using c5
            replace c5 := mt (i_eq (a := 3) (b := 3) (by omega) (by omega)).mpr (of_decide_eq_false c5)
            omega
          · skip
            replace c5 : decide ((3 : Int32) = 3) = true := by simpa using c5
            replace c5 := (i_eq (a := 3) (b := 3) (by omega) (by omega)).mp (of_decide_eq_true c5)
            refine Pv.aload rfl rfl ?_
            refine Pv.lit rfl ?_
            refine Pv.aload rfl rfl ?_
            refine Pv.getR (v := .ref 71) rfl rfl (GW.at (a := 69) (k := 6) (b := 71) hG (by decide)) ?_
            refine Pv.lit rfl ?_
            refine Pv.ald (z := Int32.ofNat (t_m E)) rfl (hE.m) ?_
            refine Pv.callV (as := [.ref 69, .int 6, .int (Int32.ofNat (t_m E))]) (rest := []) rfl rfl rfl (r_looksAt (o := 6) (q := t_m E) hG hT (by omega) b3 hMm hR) ?_
            rintro _ G1 ⟨rfl, hs1, hv1⟩
            have gw1 := RLX.G hs1.1 hG
            refine (show Pv _ _ 82 [some (.ref 69), some (.int (Int32.ofNat (4 * c))), some (.int 3)] [.int (b2i (decide (lkc nm 6 (t_m E) (tok B n lim i) = 0)))] G1 Q from ?_)
            refine Pv.if0 rfl (fun c6 => ?_) (fun c6 => ?_)
            · skip
              replace c6 : decide (b2i (decide (lkc nm 6 (t_m E) (tok B n lim i) = 0)) = 0) = false := by simpa using c6
              replace c6 := of_decide_eq_false c6
              replace c6 := b2n.mp c6
              have e0 := of_decide_eq_true c6
              obtain ⟨k2, w, hw, hwl⟩ := lkc_y b3 e0
              have hv := hv1 e0
              rw [hw] at hv
              refine Pv.aload rfl rfl ?_
              refine Pv.getI (z := Int32.ofNat c) rfl rfl ((hs1.1.2.1 30 (by decide) (by decide) (by decide) (by decide) (by decide) (by decide) (by decide) (by decide)).trans h30) ?_
              refine Pv.lit rfl ?_
              refine Pv.icmp rfl (fun c7 => ?_) (fun c7 => ?_)
              · skip
                replace c7 : decide (Int32.ofNat c = 40) = false := by simpa using c7
                replace c7 := mt (i_eq (a := c) (b := 40) (by omega) (by omega)).mpr (of_decide_eq_false c7)
                refine Pv.aload rfl rfl ?_
                refine Pv.getR (v := .ref 73) rfl rfl (GW.at (a := 69) (k := 8) (b := 73) gw1 (by decide)) ?_
                refine Pv.iload rfl rfl ?_
                refine Pv.iload rfl rfl ?_
                refine Pv.astk (k := 4 * c) (z := 3) rfl (i_toNat (by omega)) (rfl) ?_
                refine Pv.aload rfl rfl ?_
                refine Pv.getR (v := .ref 73) rfl rfl (GW.at (a := 69) (k := 8) (b := 73) gw1 (by decide)) ?_
                refine Pv.iload rfl rfl ?_
                refine Pv.lit rfl ?_
                refine Pv.bin (z := Int32.ofNat ((4 * c) + 1)) rfl (i_add (4 * c) 1) ?_
                refine Pv.aload rfl rfl ?_
                refine Pv.getI (z := Int32.ofNat w) rfl rfl ((fp_ne (Or.inl (by decide))).trans (hv)) ?_
                refine Pv.astk (k := (4 * c) + 1) (z := Int32.ofNat w) rfl (i_toNat (by omega)) (rfl) ?_
                refine Pv.aload rfl rfl ?_
                refine Pv.callV (as := [.ref 69]) (rest := []) rfl rfl rfl (r_next (RYX.G (c := c) (RYX.st (RYX.st (RYX.of hs1.1) (by omega)) (by omega)) hG) (RTK.at73 (RTK.at73 ((hs1.2.1 e0).1)))) ?_
                rintro _ G8 ⟨rfl, xn9, tn10⟩
                have ry11 : RYX c F G8 := RYX.tr (RYX.st (RYX.st (RYX.of hs1.1) (by omega)) (by omega)) (RYX.of (RLX.of xn9))
                have ez12 : G8.1 69 15 = F.1 69 15 := (xn9.2.1 15 (by decide) (by decide) (by decide) (by decide) (by decide)).trans (((fp_ne (Or.inl (by decide))).trans ((fp_ne (Or.inl (by decide))).trans ((hs1.2.1 e0).2))))
                refine (show Pv _ _ 125 [some (.ref 69), some (.int (Int32.ofNat (4 * c))), some (.int 3)] [] G8 Q from ?_)
                refine Pv.iload rfl rfl ?_
                refine Pv.lit rfl ?_
                refine Pv.icmp rfl (fun c13 => ?_) (fun c13 => ?_)
                · skip
                  replace c13 : decide ((3 : Int32) = 3) = false := by simpa using c13
                  replace c13 := mt (i_eq (a := 3) (b := 3) (by omega) (by omega)).mpr (of_decide_eq_false c13)
                  omega
                · skip
                  replace c13 : decide ((3 : Int32) = 3) = true := by simpa using c13
                  replace c13 := (i_eq (a := 3) (b := 3) (by omega) (by omega)).mp (of_decide_eq_true c13)
                  refine Pv.aload rfl rfl ?_
                  refine Pv.lit rfl ?_
                  refine Pv.callVI (as := [.ref 69, .long 1684628851]) (rest := []) (z := b2i (decide ((tok B n lim (i + 1)).k = 64 + ((11 : Nat) : Int)))) rfl rfl rfl (r_isWord (j := 11) tn10.2.2.2.1 (tok_wok _ _ _ _) (by decide) (by decide +kernel)) ?_
                  refine Pv.if0 rfl (fun c14 => ?_) (fun c14 => ?_)
                  · skip
                    replace c14 : decide (b2i (decide ((tok B n lim (i + 1)).k = 64 + ((11 : Nat) : Int))) = 0) = false := by simpa using c14
                    replace c14 := of_decide_eq_false c14
                    replace c14 := b2n.mp c14
                    refine Pv.aload rfl rfl ?_
                    refine Pv.callV (as := [.ref 69]) (rest := []) rfl rfl rfl (r_next (RYX.G (c := c) ry11 hG) tn10) ?_
                    rintro _ G15 ⟨rfl, xn16, tn17⟩
                    have ry18 : RYX c F G15 := RYX.tr ry11 (RYX.of (RLX.of xn16))
                    have ez19 : G15.1 69 15 = F.1 69 15 := (xn16.2.1 15 (by decide) (by decide) (by decide) (by decide) (by decide)).trans (ez12)
                    refine (show Pv _ _ 150 [some (.ref 69), some (.int (Int32.ofNat (4 * c))), some (.int 3)] [] G15 Q from ?_)
                    refine Pv.lit rfl ?_
                    have g14 := of_decide_eq_false c1
                    have g28 := of_decide_eq_false c2
                    have g42 := of_decide_eq_false c3
                    have g56 := of_decide_eq_false c4
                    exact Pv.zret rfl (by rw [hQ]; exact LRP.mk_y (d := 3) (w := w) (m := 0) (by unfold ll; rw [if_neg (by omega), if_neg (by omega), if_pos k2, ← fP_6, hw]; show (if 40 ≤ c then ll_n 4 i else ll_death (tok B n lim) w i) = _; rw [if_neg (by omega)]; exact if_pos (of_decide_eq_true c14)) ry18 tn17 (ez19) ⟨(xn16.1.1 73 _ (by decide)).trans ((xn9.1.1 73 _ (by decide)).trans ((fp_ne (Or.inr (by omega))).trans (fp_eq))), fun h => absurd h (by decide), fun _ => (xn16.1.1 73 _ (by decide)).trans ((xn9.1.1 73 _ (by decide)).trans (fp_eq)), fun h => absurd h (by decide)⟩)
                  · skip
                    replace c14 : decide (b2i (decide ((tok B n lim (i + 1)).k = 64 + ((11 : Nat) : Int))) = 0) = true := by simpa using c14
                    replace c14 := of_decide_eq_true c14
                    replace c14 := b2z.mp c14
                    refine Pv.aload rfl rfl ?_
                    refine Pv.lit rfl ?_
                    refine Pv.callVI (as := [.ref 69, .int 1]) (rest := []) (z := 0) rfl rfl rfl (r_bad (c := 1) (RYX.G (c := c) ry11 hG)) ?_
                    have g14 := of_decide_eq_false c1
                    have g28 := of_decide_eq_false c2
                    have g42 := of_decide_eq_false c3
                    have g56 := of_decide_eq_false c4
                    exact Pv.zret rfl (by rw [hQ]; exact LRP.mk_n (by unfold ll; rw [if_neg (by omega), if_neg (by omega), if_pos k2, ← fP_6, hw]; show (if 40 ≤ c then ll_n 4 i else ll_death (tok B n lim) w i) = _; rw [if_neg (by omega)]; exact if_neg (fun e => (of_decide_eq_false c14) (by rw [e]; rfl))) (RYX.tr ry11 (RYX.of ((RLX.rf.fp (Or.inl rfl)).fp (Or.inr (Or.inl rfl))))) ((fp_ne (Or.inr (by decide))).trans fp_eq) ((congrArg Int32.toInt fp_eq).trans tn10.2.2.2.1.1))
              · skip
                replace c7 : decide (Int32.ofNat c = 40) = true := by simpa using c7
                replace c7 := (i_eq (a := c) (b := 40) (by omega) (by omega)).mp (of_decide_eq_true c7)
                refine Pv.aload rfl rfl ?_
                refine Pv.lit rfl ?_
                refine Pv.callVI (as := [.ref 69, .int 4]) (rest := []) (z := 0) rfl rfl rfl (r_bad (c := 4) (RYX.G (c := c) (RYX.of hs1.1) hG)) ?_
                have g14 := of_decide_eq_false c1
                have g28 := of_decide_eq_false c2
                have g42 := of_decide_eq_false c3
                have g56 := of_decide_eq_false c4
                exact Pv.zret rfl (by rw [hQ]; exact LRP.mk_n (by unfold ll; rw [if_neg (by omega), if_neg (by omega), if_pos k2, ← fP_6, hw]; show (if 40 ≤ c then ll_n 4 i else ll_death (tok B n lim) w i) = _; rw [if_pos (by omega)]) (RYX.tr (RYX.of hs1.1) (RYX.of ((RLX.rf.fp (Or.inl rfl)).fp (Or.inr (Or.inl rfl))))) ((fp_ne (Or.inr (by decide))).trans fp_eq) ((congrArg Int32.toInt fp_eq).trans (hs1.2.1 e0).1.2.2.2.1.1))
            · skip
              replace c6 : decide (b2i (decide (lkc nm 6 (t_m E) (tok B n lim i) = 0)) = 0) = true := by simpa using c6
              replace c6 := of_decide_eq_true c6
              replace c6 := b2z.mp c6
              refine Pv.lit rfl ?_
              have g14 := of_decide_eq_false c1
              have g28 := of_decide_eq_false c2
              have g42 := of_decide_eq_false c3
              have g56 := of_decide_eq_false c4
              have e0 := of_decide_eq_false c6
              exact Pv.zret rfl (by rw [hQ]; exact LRP.mk_n (ll_lk b3 (by omega) (by omega) e0) (RYX.of hs1.1) (hs1.2.2 e0).1 (hs1.2.2 e0).2)
        · skip
          replace c4 := of_decide_eq_false c4
          replace c4 := b2n.mp c4
          refine Pv.lit rfl ?_
          refine Pv.goto rfl ?_
          refine Pv.istore (lo' := [some (.ref 69), some (.int (Int32.ofNat (4 * c))), some (.int 4)]) rfl rfl ?_
          refine Pv.iload rfl rfl ?_
          refine Pv.lit rfl ?_
          refine Pv.icmp rfl (fun c20 => ?_) (fun c20 => ?_)
          · skip
            replace c20 : decide ((4 : Int32) = 3) = false := by simpa using c20
            replace c20 := mt (i_eq (a := 4) (b := 3) (by omega) (by omega)).mpr (of_decide_eq_false c20)
            refine Pv.aload rfl rfl ?_
            refine Pv.getI (z := Int32.ofNat c) rfl rfl (h30) ?_
            refine Pv.lit rfl ?_
            refine Pv.icmp rfl (fun c21 => ?_) (fun c21 => ?_)
            · skip
              replace c21 : decide (Int32.ofNat c = 40) = false := by simpa using c21
              replace c21 := mt (i_eq (a := c) (b := 40) (by omega) (by omega)).mpr (of_decide_eq_false c21)
              refine Pv.aload rfl rfl ?_
              refine Pv.getR (v := .ref 73) rfl rfl (GW.at (a := 69) (k := 8) (b := 73) hG (by decide)) ?_
              refine Pv.iload rfl rfl ?_
              refine Pv.iload rfl rfl ?_
              refine Pv.astk (k := 4 * c) (z := 4) rfl (i_toNat (by omega)) (rfl) ?_
              refine Pv.aload rfl rfl ?_
              refine Pv.getR (v := .ref 73) rfl rfl (GW.at (a := 69) (k := 8) (b := 73) hG (by decide)) ?_
              refine Pv.iload rfl rfl ?_
              refine Pv.lit rfl ?_
              refine Pv.bin (z := Int32.ofNat ((4 * c) + 1)) rfl (i_add (4 * c) 1) ?_
              refine Pv.aload rfl rfl ?_
              refine Pv.getI (z := F.1 69 18) rfl rfl (fp_ne (Or.inl (by decide))) ?_
              refine Pv.astk (k := (4 * c) + 1) (z := F.1 69 18) rfl (i_toNat (by omega)) (rfl) ?_
              refine Pv.aload rfl rfl ?_
              refine Pv.callV (as := [.ref 69]) (rest := []) rfl rfl rfl (r_next (RYX.G (c := c) (RYX.st (RYX.st (RYX.of RLX.rf) (by omega)) (by omega)) hG) (RTK.at73 (RTK.at73 hT))) ?_
              rintro _ G22 ⟨rfl, xn23, tn24⟩
              have ry25 : RYX c F G22 := RYX.tr (RYX.st (RYX.st (RYX.of RLX.rf) (by omega)) (by omega)) (RYX.of (RLX.of xn23))
              have ez26 : G22.1 69 15 = F.1 69 15 := (xn23.2.1 15 (by decide) (by decide) (by decide) (by decide) (by decide)).trans (((fp_ne (Or.inl (by decide))).trans ((fp_ne (Or.inl (by decide))).trans rfl)))
              refine (show Pv _ _ 125 [some (.ref 69), some (.int (Int32.ofNat (4 * c))), some (.int 4)] [] G22 Q from ?_)
              refine Pv.iload rfl rfl ?_
              refine Pv.lit rfl ?_
              refine Pv.icmp rfl (fun c27 => ?_) (fun c27 => ?_)
              · skip
                replace c27 : decide ((4 : Int32) = 3) = false := by simpa using c27
                replace c27 := mt (i_eq (a := 4) (b := 3) (by omega) (by omega)).mpr (of_decide_eq_false c27)
                refine Pv.iload rfl rfl ?_
                refine Pv.lit rfl ?_
                refine Pv.icmp rfl (fun c28 => ?_) (fun c28 => ?_)
                · skip
                  replace c28 : decide ((4 : Int32) = 4) = false := by simpa using c28
                  replace c28 := mt (i_eq (a := 4) (b := 4) (by omega) (by omega)).mpr (of_decide_eq_false c28)
                  omega
                · skip
                  replace c28 : decide ((4 : Int32) = 4) = true := by simpa using c28
                  replace c28 := (i_eq (a := 4) (b := 4) (by omega) (by omega)).mp (of_decide_eq_true c28)
                  refine Pv.aload rfl rfl ?_
                  refine Pv.lit rfl ?_
                  refine Pv.lit rfl ?_
                  refine Pv.callV (as := [.ref 69, .int 1, .int 60]) (rest := []) rfl rfl rfl (r_takes (RYX.G (c := c) ry25 hG) tn24 1 60) ?_
                  rintro _ G29 ⟨rfl, hs30x, hv31x⟩
                  have hs30 : RSP G22 G29 B n lim (i + 1) (i + 2) (tnN (tok B n lim (i + 1)) 1 60) := hs30x
                  have hv31 : (tnN (tok B n lim (i + 1)) 1 60 = 0 → (G29.1 69 18).toInt = (tok B n lim (i + 1)).v) := hv31x
                  have ry32 : RYX c F G29 := RYX.tr ry25 (RYX.of hs30.1)
                  refine (show Pv _ _ 164 [some (.ref 69), some (.int (Int32.ofNat (4 * c))), some (.int 4)] [.int (b2i (decide (tnN (tok B n lim (i + 1)) 1 60 = 0)))] G29 Q from ?_)
                  refine Pv.if0 rfl (fun c33 => ?_) (fun c33 => ?_)
                  · skip
                    replace c33 : decide (b2i (decide (tnN (tok B n lim (i + 1)) 1 60 = 0)) = 0) = false := by simpa using c33
                    replace c33 := of_decide_eq_false c33
                    replace c33 := b2n.mp c33
                    have ea := of_decide_eq_true c33
                    have ta := hs30.2.1 ea
                    have za := ta.2.trans (ez26)
                    have ka := tnN_k ea
                    have va := i_ofv (hv31 ea) (by omega)
                    refine Pv.aload rfl rfl ?_
                    refine Pv.getR (v := .ref 73) rfl rfl (GW.at (a := 69) (k := 8) (b := 73) (RYX.G ry32 hG) (by decide)) ?_
                    refine Pv.iload rfl rfl ?_
                    refine Pv.lit rfl ?_
                    refine Pv.bin (z := Int32.ofNat ((4 * c) + 1)) rfl (i_add (4 * c) 1) ?_
                    refine Pv.aload rfl rfl ?_
                    refine Pv.getI (z := Int32.ofNat ((tok B n lim (i + 1)).v.toNat)) rfl rfl (va) ?_
                    refine Pv.astk (k := (4 * c) + 1) (z := Int32.ofNat ((tok B n lim (i + 1)).v.toNat)) rfl (i_toNat (by omega)) (rfl) ?_
                    refine Pv.lit rfl ?_
                    have g14 := of_decide_eq_false c1
                    have g28 := of_decide_eq_false c2
                    have g42 := of_decide_eq_false c3
                    have g56 := of_decide_eq_true c4
                    exact Pv.zret rfl (by rw [hQ]; exact LRP.mk_y (d := 4) (w := 0) (m := (tok B n lim (i + 1)).v.toNat) (by unfold ll; rw [if_neg (by omega), if_pos (by omega), if_neg (by omega)]; exact if_pos ea) (RYX.st ry32 (by omega)) (RTK.at73 ta.1) (((fp_ne (Or.inl (by decide))).trans za)) ⟨(fp_ne (Or.inr (by omega))).trans ((hs30.1.1.1 73 _ (by decide)).trans ((xn23.1.1 73 _ (by decide)).trans ((fp_ne (Or.inr (by omega))).trans (fp_eq)))), fun h => absurd h (by decide), fun h => absurd h (by decide), fun _ => fp_eq⟩)
                  · skip
                    replace c33 : decide (b2i (decide (tnN (tok B n lim (i + 1)) 1 60 = 0)) = 0) = true := by simpa using c33
                    replace c33 := of_decide_eq_true c33
                    replace c33 := b2z.mp c33
                    refine Pv.lit rfl ?_
                    have g14 := of_decide_eq_false c1
                    have g28 := of_decide_eq_false c2
                    have g42 := of_decide_eq_false c3
                    have g56 := of_decide_eq_true c4
                    have en := of_decide_eq_false c33
                    exact Pv.zret rfl (by rw [hQ]; exact LRP.mk_n (by unfold ll; rw [if_neg (by omega), if_pos (by omega), if_neg (by omega)]; exact if_neg en) ry32 (hs30.2.2 en).1 (hs30.2.2 en).2)
              · skip
                replace c27 : decide ((4 : Int32) = 3) = true := by simpa using c27
                replace c27 := (i_eq (a := 4) (b := 3) (by omega) (by omega)).mp (of_decide_eq_true c27)
                omega
            · skip
              replace c21 : decide (Int32.ofNat c = 40) = true := by simpa using c21
              replace c21 := (i_eq (a := c) (b := 40) (by omega) (by omega)).mp (of_decide_eq_true c21)
              refine Pv.aload rfl rfl ?_
              refine Pv.lit rfl ?_
              refine Pv.callVI (as := [.ref 69, .int 4]) (rest := []) (z := 0) rfl rfl rfl (r_bad (c := 4) (RYX.G (c := c) (RYX.of RLX.rf) hG)) ?_
              have g14 := of_decide_eq_false c1
              have g28 := of_decide_eq_false c2
              have g42 := of_decide_eq_false c3
              have g56 := of_decide_eq_true c4
              exact Pv.zret rfl (by rw [hQ]; exact LRP.mk_n (by unfold ll; rw [if_neg (by omega), if_pos (by omega), if_pos (by omega)]) (RYX.tr (RYX.of RLX.rf) (RYX.of ((RLX.rf.fp (Or.inl rfl)).fp (Or.inr (Or.inl rfl))))) ((fp_ne (Or.inr (by decide))).trans fp_eq) ((congrArg Int32.toInt fp_eq).trans hT.2.2.2.1.1))
          · skip
            replace c20 : decide ((4 : Int32) = 3) = true := by simpa using c20
            replace c20 := (i_eq (a := 4) (b := 3) (by omega) (by omega)).mp (of_decide_eq_true c20)
            omega
      · skip
        replace c3 := of_decide_eq_false c3
        replace c3 := b2n.mp c3
        refine Pv.lit rfl ?_
        refine Pv.goto rfl ?_
        refine Pv.istore (lo' := [some (.ref 69), some (.int (Int32.ofNat (4 * c))), some (.int 2)]) rfl rfl ?_
        refine Pv.iload rfl rfl ?_
        refine Pv.lit rfl ?_
        refine Pv.icmp rfl (fun c34 => ?_) (fun c34 => ?_)
        · skip
          replace c34 : decide ((2 : Int32) = 3) = false := by simpa using c34
          replace c34 := mt (i_eq (a := 2) (b := 3) (by omega) (by omega)).mpr (of_decide_eq_false c34)
          refine Pv.aload rfl rfl ?_
          refine Pv.getI (z := Int32.ofNat c) rfl rfl (h30) ?_
          refine Pv.lit rfl ?_
          refine Pv.icmp rfl (fun c35 => ?_) (fun c35 => ?_)
          · skip
            replace c35 : decide (Int32.ofNat c = 40) = false := by simpa using c35
            replace c35 := mt (i_eq (a := c) (b := 40) (by omega) (by omega)).mpr (of_decide_eq_false c35)
            refine Pv.aload rfl rfl ?_
            refine Pv.getR (v := .ref 73) rfl rfl (GW.at (a := 69) (k := 8) (b := 73) hG (by decide)) ?_
            refine Pv.iload rfl rfl ?_
            refine Pv.iload rfl rfl ?_
            refine Pv.astk (k := 4 * c) (z := 2) rfl (i_toNat (by omega)) (rfl) ?_
            refine Pv.aload rfl rfl ?_
            refine Pv.getR (v := .ref 73) rfl rfl (GW.at (a := 69) (k := 8) (b := 73) hG (by decide)) ?_
            refine Pv.iload rfl rfl ?_
            refine Pv.lit rfl ?_
            refine Pv.bin (z := Int32.ofNat ((4 * c) + 1)) rfl (i_add (4 * c) 1) ?_
            refine Pv.aload rfl rfl ?_
            refine Pv.getI (z := F.1 69 18) rfl rfl (fp_ne (Or.inl (by decide))) ?_
            refine Pv.astk (k := (4 * c) + 1) (z := F.1 69 18) rfl (i_toNat (by omega)) (rfl) ?_
            refine Pv.aload rfl rfl ?_
            refine Pv.callV (as := [.ref 69]) (rest := []) rfl rfl rfl (r_next (RYX.G (c := c) (RYX.st (RYX.st (RYX.of RLX.rf) (by omega)) (by omega)) hG) (RTK.at73 (RTK.at73 hT))) ?_
            rintro _ G36 ⟨rfl, xn37, tn38⟩
            have ry39 : RYX c F G36 := RYX.tr (RYX.st (RYX.st (RYX.of RLX.rf) (by omega)) (by omega)) (RYX.of (RLX.of xn37))
            have ez40 : G36.1 69 15 = F.1 69 15 := (xn37.2.1 15 (by decide) (by decide) (by decide) (by decide) (by decide)).trans (((fp_ne (Or.inl (by decide))).trans ((fp_ne (Or.inl (by decide))).trans rfl)))
            refine (show Pv _ _ 125 [some (.ref 69), some (.int (Int32.ofNat (4 * c))), some (.int 2)] [] G36 Q from ?_)
            refine Pv.iload rfl rfl ?_
            refine Pv.lit rfl ?_
            refine Pv.icmp rfl (fun c41 => ?_) (fun c41 => ?_)
            · skip
              replace c41 : decide ((2 : Int32) = 3) = false := by simpa using c41
              replace c41 := mt (i_eq (a := 2) (b := 3) (by omega) (by omega)).mpr (of_decide_eq_false c41)
              refine Pv.iload rfl rfl ?_
              refine Pv.lit rfl ?_
              refine Pv.icmp rfl (fun c42 => ?_) (fun c42 => ?_)
              · skip
                replace c42 : decide ((2 : Int32) = 4) = false := by simpa using c42
                replace c42 := mt (i_eq (a := 2) (b := 4) (by omega) (by omega)).mpr (of_decide_eq_false c42)
                refine Pv.aload rfl rfl ?_
                refine Pv.lit rfl ?_
                refine Pv.aload rfl rfl ?_
                refine Pv.getR (v := .ref 71) rfl rfl (GW.at (a := 69) (k := 6) (b := 71) (RYX.G ry39 hG) (by decide)) ?_
                refine Pv.lit rfl ?_
                refine Pv.ald (z := Int32.ofNat (t_g E)) rfl ((xn37.1.1 71 _ (by decide)).trans ((fp_ne (Or.inl (by decide))).trans ((fp_ne (Or.inl (by decide))).trans (hE.g)))) ?_
                refine Pv.callV (as := [.ref 69, .int 0, .int (Int32.ofNat (t_g E))]) (rest := []) rfl rfl rfl (r_takesName (o := 0) (q := t_g E) (RYX.G (c := c) ry39 hG) tn38 (by omega) (by omega) (fun g hg => by rw [ry39.1.2.1 74 _ (by decide)]; exact hMg g hg) (fun j hj => by rw [ry39.1.2.1 75 j (by decide)]; exact hR j hj)) ?_
                rintro _ G43 ⟨rfl, hs44x, hv45x⟩
                have hs44 : RSP G36 G43 B n lim (i + 1) (i + 2) (lkc nm 0 (t_g E) (tok B n lim (i + 1))) := hs44x
                have hv45 : (lkc nm 0 (t_g E) (tok B n lim (i + 1)) = 0 → G43.1 69 18 = oN (m_fst (fP nm 0 (tok B n lim (i + 1)).v) (t_g E))) := hv45x
                have ry46 : RYX c F G43 := RYX.tr ry39 (RYX.of hs44.1)
                refine (show Pv _ _ 194 [some (.ref 69), some (.int (Int32.ofNat (4 * c))), some (.int 2)] [.int (b2i (decide (lkc nm 0 (t_g E) (tok B n lim (i + 1)) = 0)))] G43 Q from ?_)
                refine Pv.if0 rfl (fun c47 => ?_) (fun c47 => ?_)
                · skip
                  replace c47 : decide (b2i (decide (lkc nm 0 (t_g E) (tok B n lim (i + 1)) = 0)) = 0) = false := by simpa using c47
                  replace c47 := of_decide_eq_false c47
                  replace c47 := b2n.mp c47
                  have en := of_decide_eq_true c47
                  have tn := hs44.2.1 en
                  have zn := tn.2.trans (ez40)
                  obtain ⟨kn, g, hg, hgl⟩ := lkc_y (by omega) en
                  have vn := hv45 en
                  rw [hg] at vn
                  rw [fP_0] at hg
                  have hw : tnW (tok B n lim (i + 1)) = 0 := if_pos kn
                  refine Pv.aload rfl rfl ?_
                  refine Pv.getR (v := .ref 73) rfl rfl (GW.at (a := 69) (k := 8) (b := 73) (RYX.G ry46 hG) (by decide)) ?_
                  refine Pv.iload rfl rfl ?_
                  refine Pv.lit rfl ?_
                  refine Pv.bin (z := Int32.ofNat ((4 * c) + 1)) rfl (i_add (4 * c) 1) ?_
                  refine Pv.aload rfl rfl ?_
                  refine Pv.getI (z := Int32.ofNat g) rfl rfl (vn) ?_
                  refine Pv.astk (k := (4 * c) + 1) (z := Int32.ofNat g) rfl (i_toNat (by omega)) (rfl) ?_
                  refine Pv.aload rfl rfl ?_
                  refine Pv.lit rfl ?_
                  refine Pv.lit rfl ?_
                  refine Pv.callV (as := [.ref 69, .int 0, .int 1]) (rest := []) rfl rfl rfl (r_takes (RYX.G (c := c) (RYX.st ry46 (by omega)) hG) (RTK.at73 tn.1) 0 1) ?_
                  rintro _ G48 ⟨rfl, hs49x, hv50x⟩
                  have hs49 : RSP (fp G43 73 ((4 * c) + 1) (Int32.ofNat g)) G48 B n lim (i + 2) (i + 3) (tnN (tok B n lim (i + 2)) 0 1) := hs49x
                  have hv50 : (tnN (tok B n lim (i + 2)) 0 1 = 0 → (G48.1 69 18).toInt = (tok B n lim (i + 2)).v) := hv50x
                  have ry51 : RYX c F G48 := RYX.tr (RYX.st ry46 (by omega)) (RYX.of hs49.1)
                  refine (show Pv _ _ 217 [some (.ref 69), some (.int (Int32.ofNat (4 * c))), some (.int 2)] [.int (b2i (decide (tnN (tok B n lim (i + 2)) 0 1 = 0)))] G48 Q from ?_)
                  refine Pv.if0 rfl (fun c52 => ?_) (fun c52 => ?_)
                  · skip
                    replace c52 : decide (b2i (decide (tnN (tok B n lim (i + 2)) 0 1 = 0)) = 0) = false := by simpa using c52
                    replace c52 := of_decide_eq_false c52
                    replace c52 := b2n.mp c52
                    have eb := of_decide_eq_true c52
                    have tb := hs49.2.1 eb
                    have zb := tb.2.trans (((fp_ne (Or.inl (by decide))).trans zn))
                    have kb := tnN_k eb
                    have vb := i_ofv (hv50 eb) (by omega)
                    refine Pv.aload rfl rfl ?_
                    refine Pv.getR (v := .ref 73) rfl rfl (GW.at (a := 69) (k := 8) (b := 73) (RYX.G ry51 hG) (by decide)) ?_
                    refine Pv.iload rfl rfl ?_
                    refine Pv.lit rfl ?_
                    refine Pv.bin (z := Int32.ofNat ((4 * c) + 2)) rfl (i_add (4 * c) 2) ?_
                    refine Pv.aload rfl rfl ?_
                    refine Pv.getI (z := Int32.ofNat ((tok B n lim (i + 2)).v.toNat)) rfl rfl (vb) ?_
                    refine Pv.astk (k := (4 * c) + 2) (z := Int32.ofNat ((tok B n lim (i + 2)).v.toNat)) rfl (i_toNat (by omega)) (rfl) ?_
                    refine Pv.aload rfl rfl ?_
                    refine Pv.lit rfl ?_
                    refine Pv.lit rfl ?_
                    refine Pv.callV (as := [.ref 69, .int 1, .int 250]) (rest := []) rfl rfl rfl (r_takes (RYX.G (c := c) (RYX.st ry51 (by omega)) hG) (RTK.at73 tb.1) 1 250) ?_
                    rintro _ G53 ⟨rfl, hs54x, hv55x⟩
                    have hs54 : RSP (fp G48 73 ((4 * c) + 2) (Int32.ofNat ((tok B n lim (i + 2)).v.toNat))) G53 B n lim (i + 3) (i + 4) (tnN (tok B n lim (i + 3)) 1 250) := hs54x
                    have hv55 : (tnN (tok B n lim (i + 3)) 1 250 = 0 → (G53.1 69 18).toInt = (tok B n lim (i + 3)).v) := hv55x
                    have ry56 : RYX c F G53 := RYX.tr (RYX.st ry51 (by omega)) (RYX.of hs54.1)
                    refine (show Pv _ _ 242 [some (.ref 69), some (.int (Int32.ofNat (4 * c))), some (.int 2)] [.int (b2i (decide (tnN (tok B n lim (i + 3)) 1 250 = 0)))] G53 Q from ?_)
                    refine Pv.if0 rfl (fun c57 => ?_) (fun c57 => ?_)
                    · skip
                      replace c57 : decide (b2i (decide (tnN (tok B n lim (i + 3)) 1 250 = 0)) = 0) = false := by simpa using c57
                      replace c57 := of_decide_eq_false c57
                      replace c57 := b2n.mp c57
                      have ec := of_decide_eq_true c57
                      have tc := hs54.2.1 ec
                      have zc := tc.2.trans (((fp_ne (Or.inl (by decide))).trans zb))
                      have kc := tnN_k ec
                      have vc := i_ofv (hv55 ec) (by omega)
                      refine Pv.aload rfl rfl ?_
                      refine Pv.getR (v := .ref 73) rfl rfl (GW.at (a := 69) (k := 8) (b := 73) (RYX.G ry56 hG) (by decide)) ?_
                      refine Pv.iload rfl rfl ?_
                      refine Pv.lit rfl ?_
                      refine Pv.bin (z := Int32.ofNat ((4 * c) + 3)) rfl (i_add (4 * c) 3) ?_
                      refine Pv.aload rfl rfl ?_
                      refine Pv.getI (z := Int32.ofNat ((tok B n lim (i + 3)).v.toNat)) rfl rfl (vc) ?_
                      refine Pv.astk (k := (4 * c) + 3) (z := Int32.ofNat ((tok B n lim (i + 3)).v.toNat)) rfl (i_toNat (by omega)) (rfl) ?_
                      refine Pv.lit rfl ?_
                      have g14 := of_decide_eq_false c1
                      have g28 := of_decide_eq_false c2
                      have g42 := of_decide_eq_true c3
                      exact Pv.zret rfl (by rw [hQ]; exact LRP.mk_y (d := 2) (w := 2 * g + (tok B n lim (i + 2)).v.toNat) (m := (tok B n lim (i + 3)).v.toNat) (by unfold ll; rw [if_pos ⟨by omega, by omega⟩, if_neg (by omega), show ((tok B n lim i).k - 72).toNat = 2 by omega]; unfold ll_deed; rw [if_pos hw, hg]; exact (if_pos eb).trans (if_pos ec)) (RYX.st ry56 (by omega)) (RTK.at73 tc.1) (((fp_ne (Or.inl (by decide))).trans zc)) ⟨(fp_ne (Or.inr (by omega))).trans ((hs54.1.1.1 73 _ (by decide)).trans ((fp_ne (Or.inr (by omega))).trans ((hs49.1.1.1 73 _ (by decide)).trans ((fp_ne (Or.inr (by omega))).trans ((hs44.1.1.1 73 _ (by decide)).trans ((xn37.1.1 73 _ (by decide)).trans ((fp_ne (Or.inr (by omega))).trans (fp_eq)))))))), fun _ => ⟨by rw [show (2 * g + (tok B n lim (i + 2)).v.toNat) / 2 = g by omega]; exact (fp_ne (Or.inr (by omega))).trans ((hs54.1.1.1 73 _ (by decide)).trans ((fp_ne (Or.inr (by omega))).trans ((hs49.1.1.1 73 _ (by decide)).trans (fp_eq)))), by rw [show (2 * g + (tok B n lim (i + 2)).v.toNat) % 2 = (tok B n lim (i + 2)).v.toNat by omega]; exact (fp_ne (Or.inr (by omega))).trans ((hs54.1.1.1 73 _ (by decide)).trans (fp_eq)), fp_eq⟩, fun h => absurd h (by decide), fun h => absurd h (by decide)⟩)
                    · skip
                      replace c57 : decide (b2i (decide (tnN (tok B n lim (i + 3)) 1 250 = 0)) = 0) = true := by simpa using c57
                      replace c57 := of_decide_eq_true c57
                      replace c57 := b2z.mp c57
                      refine Pv.lit rfl ?_
                      have g14 := of_decide_eq_false c1
                      have g28 := of_decide_eq_false c2
                      have g42 := of_decide_eq_true c3
                      have en := of_decide_eq_false c57
                      exact Pv.zret rfl (by rw [hQ]; exact LRP.mk_n (by unfold ll; rw [if_pos ⟨by omega, by omega⟩, if_neg (by omega)]; unfold ll_deed; rw [if_pos hw, hg]; exact (if_pos eb).trans (if_neg en)) ry56 (hs54.2.2 en).1 (hs54.2.2 en).2)
                  · skip
                    replace c52 : decide (b2i (decide (tnN (tok B n lim (i + 2)) 0 1 = 0)) = 0) = true := by simpa using c52
                    replace c52 := of_decide_eq_true c52
                    replace c52 := b2z.mp c52
                    refine Pv.lit rfl ?_
                    have g14 := of_decide_eq_false c1
                    have g28 := of_decide_eq_false c2
                    have g42 := of_decide_eq_true c3
                    have en := of_decide_eq_false c52
                    exact Pv.zret rfl (by rw [hQ]; exact LRP.mk_n (by unfold ll; rw [if_pos ⟨by omega, by omega⟩, if_neg (by omega)]; unfold ll_deed; rw [if_pos hw, hg]; exact if_neg en) ry51 (hs49.2.2 en).1 (hs49.2.2 en).2)
                · skip
                  replace c47 : decide (b2i (decide (lkc nm 0 (t_g E) (tok B n lim (i + 1)) = 0)) = 0) = true := by simpa using c47
                  replace c47 := of_decide_eq_true c47
                  replace c47 := b2z.mp c47
                  refine Pv.lit rfl ?_
                  have g14 := of_decide_eq_false c1
                  have g28 := of_decide_eq_false c2
                  have g42 := of_decide_eq_true c3
                  have en := of_decide_eq_false c47
                  exact Pv.zret rfl (by rw [hQ]; exact LRP.mk_n (by unfold ll; rw [if_pos ⟨by omega, by omega⟩, if_neg (by omega)]; exact ll_deed_n (by omega) en) ry46 (hs44.2.2 en).1 (hs44.2.2 en).2)
              · skip
                replace c42 : decide ((2 : Int32) = 4) = true := by simpa using c42
                replace c42 := (i_eq (a := 2) (b := 4) (by omega) (by omega)).mp (of_decide_eq_true c42)
                omega
            · skip
              replace c41 : decide ((2 : Int32) = 3) = true := by simpa using c41
              replace c41 := (i_eq (a := 2) (b := 3) (by omega) (by omega)).mp (of_decide_eq_true c41)
              omega
          · skip
            replace c35 : decide (Int32.ofNat c = 40) = true := by simpa using c35
            replace c35 := (i_eq (a := c) (b := 40) (by omega) (by omega)).mp (of_decide_eq_true c35)
            refine Pv.aload rfl rfl ?_
            refine Pv.lit rfl ?_
            refine Pv.callVI (as := [.ref 69, .int 4]) (rest := []) (z := 0) rfl rfl rfl (r_bad (c := 4) (RYX.G (c := c) (RYX.of RLX.rf) hG)) ?_
            have g14 := of_decide_eq_false c1
            have g28 := of_decide_eq_false c2
            have g42 := of_decide_eq_true c3
            exact Pv.zret rfl (by rw [hQ]; exact LRP.mk_n (by unfold ll; rw [if_pos ⟨by omega, by omega⟩, if_pos (by omega)]) (RYX.tr (RYX.of RLX.rf) (RYX.of ((RLX.rf.fp (Or.inl rfl)).fp (Or.inr (Or.inl rfl))))) ((fp_ne (Or.inr (by decide))).trans fp_eq) ((congrArg Int32.toInt fp_eq).trans hT.2.2.2.1.1))
        · skip
          replace c34 : decide ((2 : Int32) = 3) = true := by simpa using c34
          replace c34 := (i_eq (a := 2) (b := 3) (by omega) (by omega)).mp (of_decide_eq_true c34)
          omega
    · skip
      replace c2 := of_decide_eq_false c2
      replace c2 := b2n.mp c2
      refine Pv.lit rfl ?_
      refine Pv.goto rfl ?_
      refine Pv.istore (lo' := [some (.ref 69), some (.int (Int32.ofNat (4 * c))), some (.int 1)]) rfl rfl ?_
      refine Pv.iload rfl rfl ?_
      refine Pv.lit rfl ?_
      refine Pv.icmp rfl (fun c58 => ?_) (fun c58 => ?_)
      · skip
        replace c58 : decide ((1 : Int32) = 3) = false := by simpa using c58
        replace c58 := mt (i_eq (a := 1) (b := 3) (by omega) (by omega)).mpr (of_decide_eq_false c58)
        refine Pv.aload rfl rfl ?_
        refine Pv.getI (z := Int32.ofNat c) rfl rfl (h30) ?_
        refine Pv.lit rfl ?_
        refine Pv.icmp rfl (fun c59 => ?_) (fun c59 => ?_)
        · skip
          replace c59 : decide (Int32.ofNat c = 40) = false := by simpa using c59
          replace c59 := mt (i_eq (a := c) (b := 40) (by omega) (by omega)).mpr (of_decide_eq_false c59)
          refine Pv.aload rfl rfl ?_
          refine Pv.getR (v := .ref 73) rfl rfl (GW.at (a := 69) (k := 8) (b := 73) hG (by decide)) ?_
          refine Pv.iload rfl rfl ?_
          refine Pv.iload rfl rfl ?_
          refine Pv.astk (k := 4 * c) (z := 1) rfl (i_toNat (by omega)) (rfl) ?_
          refine Pv.aload rfl rfl ?_
          refine Pv.getR (v := .ref 73) rfl rfl (GW.at (a := 69) (k := 8) (b := 73) hG (by decide)) ?_
          refine Pv.iload rfl rfl ?_
          refine Pv.lit rfl ?_
          refine Pv.bin (z := Int32.ofNat ((4 * c) + 1)) rfl (i_add (4 * c) 1) ?_
          refine Pv.aload rfl rfl ?_
          refine Pv.getI (z := F.1 69 18) rfl rfl (fp_ne (Or.inl (by decide))) ?_
          refine Pv.astk (k := (4 * c) + 1) (z := F.1 69 18) rfl (i_toNat (by omega)) (rfl) ?_
          refine Pv.aload rfl rfl ?_
          refine Pv.callV (as := [.ref 69]) (rest := []) rfl rfl rfl (r_next (RYX.G (c := c) (RYX.st (RYX.st (RYX.of RLX.rf) (by omega)) (by omega)) hG) (RTK.at73 (RTK.at73 hT))) ?_
          rintro _ G60 ⟨rfl, xn61, tn62⟩
          have ry63 : RYX c F G60 := RYX.tr (RYX.st (RYX.st (RYX.of RLX.rf) (by omega)) (by omega)) (RYX.of (RLX.of xn61))
          have ez64 : G60.1 69 15 = F.1 69 15 := (xn61.2.1 15 (by decide) (by decide) (by decide) (by decide) (by decide)).trans (((fp_ne (Or.inl (by decide))).trans ((fp_ne (Or.inl (by decide))).trans rfl)))
          refine (show Pv _ _ 125 [some (.ref 69), some (.int (Int32.ofNat (4 * c))), some (.int 1)] [] G60 Q from ?_)
          refine Pv.iload rfl rfl ?_
          refine Pv.lit rfl ?_
          refine Pv.icmp rfl (fun c65 => ?_) (fun c65 => ?_)
          · skip
            replace c65 : decide ((1 : Int32) = 3) = false := by simpa using c65
            replace c65 := mt (i_eq (a := 1) (b := 3) (by omega) (by omega)).mpr (of_decide_eq_false c65)
            refine Pv.iload rfl rfl ?_
            refine Pv.lit rfl ?_
            refine Pv.icmp rfl (fun c66 => ?_) (fun c66 => ?_)
            · skip
              replace c66 : decide ((1 : Int32) = 4) = false := by simpa using c66
              replace c66 := mt (i_eq (a := 1) (b := 4) (by omega) (by omega)).mpr (of_decide_eq_false c66)
              refine Pv.aload rfl rfl ?_
              refine Pv.lit rfl ?_
              refine Pv.aload rfl rfl ?_
              refine Pv.getR (v := .ref 71) rfl rfl (GW.at (a := 69) (k := 6) (b := 71) (RYX.G ry63 hG) (by decide)) ?_
              refine Pv.lit rfl ?_
              refine Pv.ald (z := Int32.ofNat (t_g E)) rfl ((xn61.1.1 71 _ (by decide)).trans ((fp_ne (Or.inl (by decide))).trans ((fp_ne (Or.inl (by decide))).trans (hE.g)))) ?_
              refine Pv.callV (as := [.ref 69, .int 0, .int (Int32.ofNat (t_g E))]) (rest := []) rfl rfl rfl (r_takesName (o := 0) (q := t_g E) (RYX.G (c := c) ry63 hG) tn62 (by omega) (by omega) (fun g hg => by rw [ry63.1.2.1 74 _ (by decide)]; exact hMg g hg) (fun j hj => by rw [ry63.1.2.1 75 j (by decide)]; exact hR j hj)) ?_
              rintro _ G67 ⟨rfl, hs68x, hv69x⟩
              have hs68 : RSP G60 G67 B n lim (i + 1) (i + 2) (lkc nm 0 (t_g E) (tok B n lim (i + 1))) := hs68x
              have hv69 : (lkc nm 0 (t_g E) (tok B n lim (i + 1)) = 0 → G67.1 69 18 = oN (m_fst (fP nm 0 (tok B n lim (i + 1)).v) (t_g E))) := hv69x
              have ry70 : RYX c F G67 := RYX.tr ry63 (RYX.of hs68.1)
              refine (show Pv _ _ 194 [some (.ref 69), some (.int (Int32.ofNat (4 * c))), some (.int 1)] [.int (b2i (decide (lkc nm 0 (t_g E) (tok B n lim (i + 1)) = 0)))] G67 Q from ?_)
              refine Pv.if0 rfl (fun c71 => ?_) (fun c71 => ?_)
              · skip
                replace c71 : decide (b2i (decide (lkc nm 0 (t_g E) (tok B n lim (i + 1)) = 0)) = 0) = false := by simpa using c71
                replace c71 := of_decide_eq_false c71
                replace c71 := b2n.mp c71
                have en := of_decide_eq_true c71
                have tn := hs68.2.1 en
                have zn := tn.2.trans (ez64)
                obtain ⟨kn, g, hg, hgl⟩ := lkc_y (by omega) en
                have vn := hv69 en
                rw [hg] at vn
                rw [fP_0] at hg
                have hw : tnW (tok B n lim (i + 1)) = 0 := if_pos kn
                refine Pv.aload rfl rfl ?_
                refine Pv.getR (v := .ref 73) rfl rfl (GW.at (a := 69) (k := 8) (b := 73) (RYX.G ry70 hG) (by decide)) ?_
                refine Pv.iload rfl rfl ?_
                refine Pv.lit rfl ?_
                refine Pv.bin (z := Int32.ofNat ((4 * c) + 1)) rfl (i_add (4 * c) 1) ?_
                refine Pv.aload rfl rfl ?_
                refine Pv.getI (z := Int32.ofNat g) rfl rfl (vn) ?_
                refine Pv.astk (k := (4 * c) + 1) (z := Int32.ofNat g) rfl (i_toNat (by omega)) (rfl) ?_
                refine Pv.aload rfl rfl ?_
                refine Pv.lit rfl ?_
                refine Pv.lit rfl ?_
                refine Pv.callV (as := [.ref 69, .int 0, .int 1]) (rest := []) rfl rfl rfl (r_takes (RYX.G (c := c) (RYX.st ry70 (by omega)) hG) (RTK.at73 tn.1) 0 1) ?_
                rintro _ G72 ⟨rfl, hs73x, hv74x⟩
                have hs73 : RSP (fp G67 73 ((4 * c) + 1) (Int32.ofNat g)) G72 B n lim (i + 2) (i + 3) (tnN (tok B n lim (i + 2)) 0 1) := hs73x
                have hv74 : (tnN (tok B n lim (i + 2)) 0 1 = 0 → (G72.1 69 18).toInt = (tok B n lim (i + 2)).v) := hv74x
                have ry75 : RYX c F G72 := RYX.tr (RYX.st ry70 (by omega)) (RYX.of hs73.1)
                refine (show Pv _ _ 217 [some (.ref 69), some (.int (Int32.ofNat (4 * c))), some (.int 1)] [.int (b2i (decide (tnN (tok B n lim (i + 2)) 0 1 = 0)))] G72 Q from ?_)
                refine Pv.if0 rfl (fun c76 => ?_) (fun c76 => ?_)
                · skip
                  replace c76 : decide (b2i (decide (tnN (tok B n lim (i + 2)) 0 1 = 0)) = 0) = false := by simpa using c76
                  replace c76 := of_decide_eq_false c76
                  replace c76 := b2n.mp c76
                  have eb := of_decide_eq_true c76
                  have tb := hs73.2.1 eb
                  have zb := tb.2.trans (((fp_ne (Or.inl (by decide))).trans zn))
                  have kb := tnN_k eb
                  have vb := i_ofv (hv74 eb) (by omega)
                  refine Pv.aload rfl rfl ?_
                  refine Pv.getR (v := .ref 73) rfl rfl (GW.at (a := 69) (k := 8) (b := 73) (RYX.G ry75 hG) (by decide)) ?_
                  refine Pv.iload rfl rfl ?_
                  refine Pv.lit rfl ?_
                  refine Pv.bin (z := Int32.ofNat ((4 * c) + 2)) rfl (i_add (4 * c) 2) ?_
                  refine Pv.aload rfl rfl ?_
                  refine Pv.getI (z := Int32.ofNat ((tok B n lim (i + 2)).v.toNat)) rfl rfl (vb) ?_
                  refine Pv.astk (k := (4 * c) + 2) (z := Int32.ofNat ((tok B n lim (i + 2)).v.toNat)) rfl (i_toNat (by omega)) (rfl) ?_
                  refine Pv.aload rfl rfl ?_
                  refine Pv.lit rfl ?_
                  refine Pv.lit rfl ?_
                  refine Pv.callV (as := [.ref 69, .int 1, .int 250]) (rest := []) rfl rfl rfl (r_takes (RYX.G (c := c) (RYX.st ry75 (by omega)) hG) (RTK.at73 tb.1) 1 250) ?_
                  rintro _ G77 ⟨rfl, hs78x, hv79x⟩
                  have hs78 : RSP (fp G72 73 ((4 * c) + 2) (Int32.ofNat ((tok B n lim (i + 2)).v.toNat))) G77 B n lim (i + 3) (i + 4) (tnN (tok B n lim (i + 3)) 1 250) := hs78x
                  have hv79 : (tnN (tok B n lim (i + 3)) 1 250 = 0 → (G77.1 69 18).toInt = (tok B n lim (i + 3)).v) := hv79x
                  have ry80 : RYX c F G77 := RYX.tr (RYX.st ry75 (by omega)) (RYX.of hs78.1)
                  refine (show Pv _ _ 242 [some (.ref 69), some (.int (Int32.ofNat (4 * c))), some (.int 1)] [.int (b2i (decide (tnN (tok B n lim (i + 3)) 1 250 = 0)))] G77 Q from ?_)
                  refine Pv.if0 rfl (fun c81 => ?_) (fun c81 => ?_)
                  · skip
                    replace c81 : decide (b2i (decide (tnN (tok B n lim (i + 3)) 1 250 = 0)) = 0) = false := by simpa using c81
                    replace c81 := of_decide_eq_false c81
                    replace c81 := b2n.mp c81
                    have ec := of_decide_eq_true c81
                    have tc := hs78.2.1 ec
                    have zc := tc.2.trans (((fp_ne (Or.inl (by decide))).trans zb))
                    have kc := tnN_k ec
                    have vc := i_ofv (hv79 ec) (by omega)
                    refine Pv.aload rfl rfl ?_
                    refine Pv.getR (v := .ref 73) rfl rfl (GW.at (a := 69) (k := 8) (b := 73) (RYX.G ry80 hG) (by decide)) ?_
                    refine Pv.iload rfl rfl ?_
                    refine Pv.lit rfl ?_
                    refine Pv.bin (z := Int32.ofNat ((4 * c) + 3)) rfl (i_add (4 * c) 3) ?_
                    refine Pv.aload rfl rfl ?_
                    refine Pv.getI (z := Int32.ofNat ((tok B n lim (i + 3)).v.toNat)) rfl rfl (vc) ?_
                    refine Pv.astk (k := (4 * c) + 3) (z := Int32.ofNat ((tok B n lim (i + 3)).v.toNat)) rfl (i_toNat (by omega)) (rfl) ?_
                    refine Pv.lit rfl ?_
                    have g14 := of_decide_eq_false c1
                    have g28 := of_decide_eq_true c2
                    exact Pv.zret rfl (by rw [hQ]; exact LRP.mk_y (d := 1) (w := 2 * g + (tok B n lim (i + 2)).v.toNat) (m := (tok B n lim (i + 3)).v.toNat) (by unfold ll; rw [if_pos ⟨by omega, by omega⟩, if_neg (by omega), show ((tok B n lim i).k - 72).toNat = 1 by omega]; unfold ll_deed; rw [if_pos hw, hg]; exact (if_pos eb).trans (if_pos ec)) (RYX.st ry80 (by omega)) (RTK.at73 tc.1) (((fp_ne (Or.inl (by decide))).trans zc)) ⟨(fp_ne (Or.inr (by omega))).trans ((hs78.1.1.1 73 _ (by decide)).trans ((fp_ne (Or.inr (by omega))).trans ((hs73.1.1.1 73 _ (by decide)).trans ((fp_ne (Or.inr (by omega))).trans ((hs68.1.1.1 73 _ (by decide)).trans ((xn61.1.1 73 _ (by decide)).trans ((fp_ne (Or.inr (by omega))).trans (fp_eq)))))))), fun _ => ⟨by rw [show (2 * g + (tok B n lim (i + 2)).v.toNat) / 2 = g by omega]; exact (fp_ne (Or.inr (by omega))).trans ((hs78.1.1.1 73 _ (by decide)).trans ((fp_ne (Or.inr (by omega))).trans ((hs73.1.1.1 73 _ (by decide)).trans (fp_eq)))), by rw [show (2 * g + (tok B n lim (i + 2)).v.toNat) % 2 = (tok B n lim (i + 2)).v.toNat by omega]; exact (fp_ne (Or.inr (by omega))).trans ((hs78.1.1.1 73 _ (by decide)).trans (fp_eq)), fp_eq⟩, fun h => absurd h (by decide), fun h => absurd h (by decide)⟩)
                  · skip
                    replace c81 : decide (b2i (decide (tnN (tok B n lim (i + 3)) 1 250 = 0)) = 0) = true := by simpa using c81
                    replace c81 := of_decide_eq_true c81
                    replace c81 := b2z.mp c81
                    refine Pv.lit rfl ?_
                    have g14 := of_decide_eq_false c1
                    have g28 := of_decide_eq_true c2
                    have en := of_decide_eq_false c81
                    exact Pv.zret rfl (by rw [hQ]; exact LRP.mk_n (by unfold ll; rw [if_pos ⟨by omega, by omega⟩, if_neg (by omega)]; unfold ll_deed; rw [if_pos hw, hg]; exact (if_pos eb).trans (if_neg en)) ry80 (hs78.2.2 en).1 (hs78.2.2 en).2)
                · skip
                  replace c76 : decide (b2i (decide (tnN (tok B n lim (i + 2)) 0 1 = 0)) = 0) = true := by simpa using c76
                  replace c76 := of_decide_eq_true c76
                  replace c76 := b2z.mp c76
                  refine Pv.lit rfl ?_
                  have g14 := of_decide_eq_false c1
                  have g28 := of_decide_eq_true c2
                  have en := of_decide_eq_false c76
                  exact Pv.zret rfl (by rw [hQ]; exact LRP.mk_n (by unfold ll; rw [if_pos ⟨by omega, by omega⟩, if_neg (by omega)]; unfold ll_deed; rw [if_pos hw, hg]; exact if_neg en) ry75 (hs73.2.2 en).1 (hs73.2.2 en).2)
              · skip
                replace c71 : decide (b2i (decide (lkc nm 0 (t_g E) (tok B n lim (i + 1)) = 0)) = 0) = true := by simpa using c71
                replace c71 := of_decide_eq_true c71
                replace c71 := b2z.mp c71
                refine Pv.lit rfl ?_
                have g14 := of_decide_eq_false c1
                have g28 := of_decide_eq_true c2
                have en := of_decide_eq_false c71
                exact Pv.zret rfl (by rw [hQ]; exact LRP.mk_n (by unfold ll; rw [if_pos ⟨by omega, by omega⟩, if_neg (by omega)]; exact ll_deed_n (by omega) en) ry70 (hs68.2.2 en).1 (hs68.2.2 en).2)
            · skip
              replace c66 : decide ((1 : Int32) = 4) = true := by simpa using c66
              replace c66 := (i_eq (a := 1) (b := 4) (by omega) (by omega)).mp (of_decide_eq_true c66)
              omega
          · skip
            replace c65 : decide ((1 : Int32) = 3) = true := by simpa using c65
            replace c65 := (i_eq (a := 1) (b := 3) (by omega) (by omega)).mp (of_decide_eq_true c65)
            omega
        · skip
          replace c59 : decide (Int32.ofNat c = 40) = true := by simpa using c59
          replace c59 := (i_eq (a := c) (b := 40) (by omega) (by omega)).mp (of_decide_eq_true c59)
          refine Pv.aload rfl rfl ?_
          refine Pv.lit rfl ?_
          refine Pv.callVI (as := [.ref 69, .int 4]) (rest := []) (z := 0) rfl rfl rfl (r_bad (c := 4) (RYX.G (c := c) (RYX.of RLX.rf) hG)) ?_
          have g14 := of_decide_eq_false c1
          have g28 := of_decide_eq_true c2
          exact Pv.zret rfl (by rw [hQ]; exact LRP.mk_n (by unfold ll; rw [if_pos ⟨by omega, by omega⟩, if_pos (by omega)]) (RYX.tr (RYX.of RLX.rf) (RYX.of ((RLX.rf.fp (Or.inl rfl)).fp (Or.inr (Or.inl rfl))))) ((fp_ne (Or.inr (by decide))).trans fp_eq) ((congrArg Int32.toInt fp_eq).trans hT.2.2.2.1.1))
      · skip
        replace c58 : decide ((1 : Int32) = 3) = true := by simpa using c58
        replace c58 := (i_eq (a := 1) (b := 3) (by omega) (by omega)).mp (of_decide_eq_true c58)
        omega
  · skip
    replace c1 := of_decide_eq_false c1
    replace c1 := b2n.mp c1
    refine Pv.lit rfl ?_
    refine Pv.goto rfl ?_
    refine Pv.istore (lo' := [some (.ref 69), some (.int (Int32.ofNat (4 * c))), some (.int 0)]) rfl rfl ?_
    refine Pv.iload rfl rfl ?_
    refine Pv.lit rfl ?_
    refine Pv.icmp rfl (fun c82 => ?_) (fun c82 => ?_)
    · skip
      replace c82 : decide ((0 : Int32) = 3) = false := by simpa using c82
      replace c82 := mt (i_eq (a := 0) (b := 3) (by omega) (by omega)).mpr (of_decide_eq_false c82)
      refine Pv.aload rfl rfl ?_
      refine Pv.getI (z := Int32.ofNat c) rfl rfl (h30) ?_
      refine Pv.lit rfl ?_
      refine Pv.icmp rfl (fun c83 => ?_) (fun c83 => ?_)
      · skip
        replace c83 : decide (Int32.ofNat c = 40) = false := by simpa using c83
        replace c83 := mt (i_eq (a := c) (b := 40) (by omega) (by omega)).mpr (of_decide_eq_false c83)
        refine Pv.aload rfl rfl ?_
        refine Pv.getR (v := .ref 73) rfl rfl (GW.at (a := 69) (k := 8) (b := 73) hG (by decide)) ?_
        refine Pv.iload rfl rfl ?_
        refine Pv.iload rfl rfl ?_
        refine Pv.astk (k := 4 * c) (z := 0) rfl (i_toNat (by omega)) (rfl) ?_
        refine Pv.aload rfl rfl ?_
        refine Pv.getR (v := .ref 73) rfl rfl (GW.at (a := 69) (k := 8) (b := 73) hG (by decide)) ?_
        refine Pv.iload rfl rfl ?_
        refine Pv.lit rfl ?_
        refine Pv.bin (z := Int32.ofNat ((4 * c) + 1)) rfl (i_add (4 * c) 1) ?_
        refine Pv.aload rfl rfl ?_
        refine Pv.getI (z := F.1 69 18) rfl rfl (fp_ne (Or.inl (by decide))) ?_
        refine Pv.astk (k := (4 * c) + 1) (z := F.1 69 18) rfl (i_toNat (by omega)) (rfl) ?_
        refine Pv.aload rfl rfl ?_
        refine Pv.callV (as := [.ref 69]) (rest := []) rfl rfl rfl (r_next (RYX.G (c := c) (RYX.st (RYX.st (RYX.of RLX.rf) (by omega)) (by omega)) hG) (RTK.at73 (RTK.at73 hT))) ?_
        rintro _ G84 ⟨rfl, xn85, tn86⟩
        have ry87 : RYX c F G84 := RYX.tr (RYX.st (RYX.st (RYX.of RLX.rf) (by omega)) (by omega)) (RYX.of (RLX.of xn85))
        have ez88 : G84.1 69 15 = F.1 69 15 := (xn85.2.1 15 (by decide) (by decide) (by decide) (by decide) (by decide)).trans (((fp_ne (Or.inl (by decide))).trans ((fp_ne (Or.inl (by decide))).trans rfl)))
        refine (show Pv _ _ 125 [some (.ref 69), some (.int (Int32.ofNat (4 * c))), some (.int 0)] [] G84 Q from ?_)
        refine Pv.iload rfl rfl ?_
        refine Pv.lit rfl ?_
        refine Pv.icmp rfl (fun c89 => ?_) (fun c89 => ?_)
        · skip
          replace c89 : decide ((0 : Int32) = 3) = false := by simpa using c89
          replace c89 := mt (i_eq (a := 0) (b := 3) (by omega) (by omega)).mpr (of_decide_eq_false c89)
          refine Pv.iload rfl rfl ?_
          refine Pv.lit rfl ?_
          refine Pv.icmp rfl (fun c90 => ?_) (fun c90 => ?_)
          · skip
            replace c90 : decide ((0 : Int32) = 4) = false := by simpa using c90
            replace c90 := mt (i_eq (a := 0) (b := 4) (by omega) (by omega)).mpr (of_decide_eq_false c90)
            refine Pv.aload rfl rfl ?_
            refine Pv.lit rfl ?_
            refine Pv.aload rfl rfl ?_
            refine Pv.getR (v := .ref 71) rfl rfl (GW.at (a := 69) (k := 6) (b := 71) (RYX.G ry87 hG) (by decide)) ?_
            refine Pv.lit rfl ?_
            refine Pv.ald (z := Int32.ofNat (t_g E)) rfl ((xn85.1.1 71 _ (by decide)).trans ((fp_ne (Or.inl (by decide))).trans ((fp_ne (Or.inl (by decide))).trans (hE.g)))) ?_
            refine Pv.callV (as := [.ref 69, .int 0, .int (Int32.ofNat (t_g E))]) (rest := []) rfl rfl rfl (r_takesName (o := 0) (q := t_g E) (RYX.G (c := c) ry87 hG) tn86 (by omega) (by omega) (fun g hg => by rw [ry87.1.2.1 74 _ (by decide)]; exact hMg g hg) (fun j hj => by rw [ry87.1.2.1 75 j (by decide)]; exact hR j hj)) ?_
            rintro _ G91 ⟨rfl, hs92x, hv93x⟩
            have hs92 : RSP G84 G91 B n lim (i + 1) (i + 2) (lkc nm 0 (t_g E) (tok B n lim (i + 1))) := hs92x
            have hv93 : (lkc nm 0 (t_g E) (tok B n lim (i + 1)) = 0 → G91.1 69 18 = oN (m_fst (fP nm 0 (tok B n lim (i + 1)).v) (t_g E))) := hv93x
            have ry94 : RYX c F G91 := RYX.tr ry87 (RYX.of hs92.1)
            refine (show Pv _ _ 194 [some (.ref 69), some (.int (Int32.ofNat (4 * c))), some (.int 0)] [.int (b2i (decide (lkc nm 0 (t_g E) (tok B n lim (i + 1)) = 0)))] G91 Q from ?_)
            refine Pv.if0 rfl (fun c95 => ?_) (fun c95 => ?_)
            · skip
              replace c95 : decide (b2i (decide (lkc nm 0 (t_g E) (tok B n lim (i + 1)) = 0)) = 0) = false := by simpa using c95
              replace c95 := of_decide_eq_false c95
              replace c95 := b2n.mp c95
              have en := of_decide_eq_true c95
              have tn := hs92.2.1 en
              have zn := tn.2.trans (ez88)
              obtain ⟨kn, g, hg, hgl⟩ := lkc_y (by omega) en
              have vn := hv93 en
              rw [hg] at vn
              rw [fP_0] at hg
              have hw : tnW (tok B n lim (i + 1)) = 0 := if_pos kn
              refine Pv.aload rfl rfl ?_
              refine Pv.getR (v := .ref 73) rfl rfl (GW.at (a := 69) (k := 8) (b := 73) (RYX.G ry94 hG) (by decide)) ?_
              refine Pv.iload rfl rfl ?_
              refine Pv.lit rfl ?_
              refine Pv.bin (z := Int32.ofNat ((4 * c) + 1)) rfl (i_add (4 * c) 1) ?_
              refine Pv.aload rfl rfl ?_
              refine Pv.getI (z := Int32.ofNat g) rfl rfl (vn) ?_
              refine Pv.astk (k := (4 * c) + 1) (z := Int32.ofNat g) rfl (i_toNat (by omega)) (rfl) ?_
              refine Pv.aload rfl rfl ?_
              refine Pv.lit rfl ?_
              refine Pv.lit rfl ?_
              refine Pv.callV (as := [.ref 69, .int 0, .int 1]) (rest := []) rfl rfl rfl (r_takes (RYX.G (c := c) (RYX.st ry94 (by omega)) hG) (RTK.at73 tn.1) 0 1) ?_
              rintro _ G96 ⟨rfl, hs97x, hv98x⟩
              have hs97 : RSP (fp G91 73 ((4 * c) + 1) (Int32.ofNat g)) G96 B n lim (i + 2) (i + 3) (tnN (tok B n lim (i + 2)) 0 1) := hs97x
              have hv98 : (tnN (tok B n lim (i + 2)) 0 1 = 0 → (G96.1 69 18).toInt = (tok B n lim (i + 2)).v) := hv98x
              have ry99 : RYX c F G96 := RYX.tr (RYX.st ry94 (by omega)) (RYX.of hs97.1)
              refine (show Pv _ _ 217 [some (.ref 69), some (.int (Int32.ofNat (4 * c))), some (.int 0)] [.int (b2i (decide (tnN (tok B n lim (i + 2)) 0 1 = 0)))] G96 Q from ?_)
              refine Pv.if0 rfl (fun c100 => ?_) (fun c100 => ?_)
              · skip
                replace c100 : decide (b2i (decide (tnN (tok B n lim (i + 2)) 0 1 = 0)) = 0) = false := by simpa using c100
                replace c100 := of_decide_eq_false c100
                replace c100 := b2n.mp c100
                have eb := of_decide_eq_true c100
                have tb := hs97.2.1 eb
                have zb := tb.2.trans (((fp_ne (Or.inl (by decide))).trans zn))
                have kb := tnN_k eb
                have vb := i_ofv (hv98 eb) (by omega)
                refine Pv.aload rfl rfl ?_
                refine Pv.getR (v := .ref 73) rfl rfl (GW.at (a := 69) (k := 8) (b := 73) (RYX.G ry99 hG) (by decide)) ?_
                refine Pv.iload rfl rfl ?_
                refine Pv.lit rfl ?_
                refine Pv.bin (z := Int32.ofNat ((4 * c) + 2)) rfl (i_add (4 * c) 2) ?_
                refine Pv.aload rfl rfl ?_
                refine Pv.getI (z := Int32.ofNat ((tok B n lim (i + 2)).v.toNat)) rfl rfl (vb) ?_
                refine Pv.astk (k := (4 * c) + 2) (z := Int32.ofNat ((tok B n lim (i + 2)).v.toNat)) rfl (i_toNat (by omega)) (rfl) ?_
                refine Pv.aload rfl rfl ?_
                refine Pv.lit rfl ?_
                refine Pv.lit rfl ?_
                refine Pv.callV (as := [.ref 69, .int 1, .int 250]) (rest := []) rfl rfl rfl (r_takes (RYX.G (c := c) (RYX.st ry99 (by omega)) hG) (RTK.at73 tb.1) 1 250) ?_
                rintro _ G101 ⟨rfl, hs102x, hv103x⟩
                have hs102 : RSP (fp G96 73 ((4 * c) + 2) (Int32.ofNat ((tok B n lim (i + 2)).v.toNat))) G101 B n lim (i + 3) (i + 4) (tnN (tok B n lim (i + 3)) 1 250) := hs102x
                have hv103 : (tnN (tok B n lim (i + 3)) 1 250 = 0 → (G101.1 69 18).toInt = (tok B n lim (i + 3)).v) := hv103x
                have ry104 : RYX c F G101 := RYX.tr (RYX.st ry99 (by omega)) (RYX.of hs102.1)
                refine (show Pv _ _ 242 [some (.ref 69), some (.int (Int32.ofNat (4 * c))), some (.int 0)] [.int (b2i (decide (tnN (tok B n lim (i + 3)) 1 250 = 0)))] G101 Q from ?_)
                refine Pv.if0 rfl (fun c105 => ?_) (fun c105 => ?_)
                · skip
                  replace c105 : decide (b2i (decide (tnN (tok B n lim (i + 3)) 1 250 = 0)) = 0) = false := by simpa using c105
                  replace c105 := of_decide_eq_false c105
                  replace c105 := b2n.mp c105
                  have ec := of_decide_eq_true c105
                  have tc := hs102.2.1 ec
                  have zc := tc.2.trans (((fp_ne (Or.inl (by decide))).trans zb))
                  have kc := tnN_k ec
                  have vc := i_ofv (hv103 ec) (by omega)
                  refine Pv.aload rfl rfl ?_
                  refine Pv.getR (v := .ref 73) rfl rfl (GW.at (a := 69) (k := 8) (b := 73) (RYX.G ry104 hG) (by decide)) ?_
                  refine Pv.iload rfl rfl ?_
                  refine Pv.lit rfl ?_
                  refine Pv.bin (z := Int32.ofNat ((4 * c) + 3)) rfl (i_add (4 * c) 3) ?_
                  refine Pv.aload rfl rfl ?_
                  refine Pv.getI (z := Int32.ofNat ((tok B n lim (i + 3)).v.toNat)) rfl rfl (vc) ?_
                  refine Pv.astk (k := (4 * c) + 3) (z := Int32.ofNat ((tok B n lim (i + 3)).v.toNat)) rfl (i_toNat (by omega)) (rfl) ?_
                  refine Pv.lit rfl ?_
                  have g14 := of_decide_eq_true c1
                  exact Pv.zret rfl (by rw [hQ]; exact LRP.mk_y (d := 0) (w := 2 * g + (tok B n lim (i + 2)).v.toNat) (m := (tok B n lim (i + 3)).v.toNat) (by unfold ll; rw [if_pos ⟨by omega, by omega⟩, if_neg (by omega), show ((tok B n lim i).k - 72).toNat = 0 by omega]; unfold ll_deed; rw [if_pos hw, hg]; exact (if_pos eb).trans (if_pos ec)) (RYX.st ry104 (by omega)) (RTK.at73 tc.1) (((fp_ne (Or.inl (by decide))).trans zc)) ⟨(fp_ne (Or.inr (by omega))).trans ((hs102.1.1.1 73 _ (by decide)).trans ((fp_ne (Or.inr (by omega))).trans ((hs97.1.1.1 73 _ (by decide)).trans ((fp_ne (Or.inr (by omega))).trans ((hs92.1.1.1 73 _ (by decide)).trans ((xn85.1.1 73 _ (by decide)).trans ((fp_ne (Or.inr (by omega))).trans (fp_eq)))))))), fun _ => ⟨by rw [show (2 * g + (tok B n lim (i + 2)).v.toNat) / 2 = g by omega]; exact (fp_ne (Or.inr (by omega))).trans ((hs102.1.1.1 73 _ (by decide)).trans ((fp_ne (Or.inr (by omega))).trans ((hs97.1.1.1 73 _ (by decide)).trans (fp_eq)))), by rw [show (2 * g + (tok B n lim (i + 2)).v.toNat) % 2 = (tok B n lim (i + 2)).v.toNat by omega]; exact (fp_ne (Or.inr (by omega))).trans ((hs102.1.1.1 73 _ (by decide)).trans (fp_eq)), fp_eq⟩, fun h => absurd h (by decide), fun h => absurd h (by decide)⟩)
                · skip
                  replace c105 : decide (b2i (decide (tnN (tok B n lim (i + 3)) 1 250 = 0)) = 0) = true := by simpa using c105
                  replace c105 := of_decide_eq_true c105
                  replace c105 := b2z.mp c105
                  refine Pv.lit rfl ?_
                  have g14 := of_decide_eq_true c1
                  have en := of_decide_eq_false c105
                  exact Pv.zret rfl (by rw [hQ]; exact LRP.mk_n (by unfold ll; rw [if_pos ⟨by omega, by omega⟩, if_neg (by omega)]; unfold ll_deed; rw [if_pos hw, hg]; exact (if_pos eb).trans (if_neg en)) ry104 (hs102.2.2 en).1 (hs102.2.2 en).2)
              · skip
                replace c100 : decide (b2i (decide (tnN (tok B n lim (i + 2)) 0 1 = 0)) = 0) = true := by simpa using c100
                replace c100 := of_decide_eq_true c100
                replace c100 := b2z.mp c100
                refine Pv.lit rfl ?_
                have g14 := of_decide_eq_true c1
                have en := of_decide_eq_false c100
                exact Pv.zret rfl (by rw [hQ]; exact LRP.mk_n (by unfold ll; rw [if_pos ⟨by omega, by omega⟩, if_neg (by omega)]; unfold ll_deed; rw [if_pos hw, hg]; exact if_neg en) ry99 (hs97.2.2 en).1 (hs97.2.2 en).2)
            · skip
              replace c95 : decide (b2i (decide (lkc nm 0 (t_g E) (tok B n lim (i + 1)) = 0)) = 0) = true := by simpa using c95
              replace c95 := of_decide_eq_true c95
              replace c95 := b2z.mp c95
              refine Pv.lit rfl ?_
              have g14 := of_decide_eq_true c1
              have en := of_decide_eq_false c95
              exact Pv.zret rfl (by rw [hQ]; exact LRP.mk_n (by unfold ll; rw [if_pos ⟨by omega, by omega⟩, if_neg (by omega)]; exact ll_deed_n (by omega) en) ry94 (hs92.2.2 en).1 (hs92.2.2 en).2)
          · skip
            replace c90 : decide ((0 : Int32) = 4) = true := by simpa using c90
            replace c90 := (i_eq (a := 0) (b := 4) (by omega) (by omega)).mp (of_decide_eq_true c90)
            omega
        · skip
          replace c89 : decide ((0 : Int32) = 3) = true := by simpa using c89
          replace c89 := (i_eq (a := 0) (b := 3) (by omega) (by omega)).mp (of_decide_eq_true c89)
          omega
      · skip
        replace c83 : decide (Int32.ofNat c = 40) = true := by simpa using c83
        replace c83 := (i_eq (a := c) (b := 40) (by omega) (by omega)).mp (of_decide_eq_true c83)
        refine Pv.aload rfl rfl ?_
        refine Pv.lit rfl ?_
        refine Pv.callVI (as := [.ref 69, .int 4]) (rest := []) (z := 0) rfl rfl rfl (r_bad (c := 4) (RYX.G (c := c) (RYX.of RLX.rf) hG)) ?_
        have g14 := of_decide_eq_true c1
        exact Pv.zret rfl (by rw [hQ]; exact LRP.mk_n (by unfold ll; rw [if_pos ⟨by omega, by omega⟩, if_pos (by omega)]) (RYX.tr (RYX.of RLX.rf) (RYX.of ((RLX.rf.fp (Or.inl rfl)).fp (Or.inr (Or.inl rfl))))) ((fp_ne (Or.inr (by decide))).trans fp_eq) ((congrArg Int32.toInt fp_eq).trans hT.2.2.2.1.1))
    · skip
      replace c82 : decide ((0 : Int32) = 3) = true := by simpa using c82
      replace c82 := (i_eq (a := 0) (b := 3) (by omega) (by omega)).mp (of_decide_eq_true c82)
      omega
