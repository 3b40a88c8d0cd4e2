set_option maxRecDepth 100000 in
set_option maxHeartbeats 4000000 in
theorem c_readLine {F : FW} {K : Nat → TT} {m i c : Nat} (hG : GW F) (hT : TKF F K m) (h4 : F.1 3 4 = Int32.ofNat (i + 1)) (hi : i < m) (h3 : F.1 36 3 = Int32.ofNat c) (hc : c ≤ 40) (hcu : CURF F (K i)) (h0 : (K i).k ≠ 0) {r : Nat} {E : St} {nm : Nat → Int} (hE : TR F r E) (hN : NMC F r E nm) (hr : 40 ≤ r) : Pm Z_X4_readLine [.ref 36, .ref 3, .ref r] F (fun r' F' => LLP F F' K m c r' (ll K nm (t_g E) (t_m E) c i)) := by
  refine Pm.of fun N => ?_
  obtain ⟨Q, hQ⟩ : ∃ Q : Option Value → FW → Prop, Q = (fun r' F' => LLP F F' K m c r' (ll K nm (t_g E) (t_m E) c i)) := ⟨_, rfl⟩
  rw [← hQ]
  have b3 := hE.mb
  have b5 := hE.gb
  have hk := hcu.1
  have e2 : (2 : Int32).toInt = 2 := rfl
  have e72 : (72 : Int32).toInt = 72 := rfl
  have e74 : (74 : Int32).toInt = 74 := rfl
  have e76 : (76 : Int32).toInt = 76 := rfl
  refine (show Pv (ab_T (L_X4_readLine Z_X9_fail Z_X7_manNamed Z_X4_readDeed Z_X4_readDays Z_X4_readDeath)) N 0 [some (.ref 36), some (.ref 3), some (.ref r), none, none, none] [] F Q from ?_)
  refine Pv.aload rfl rfl ?_
  refine Pv.getI (z := F.1 3 5) rfl rfl (rfl) ?_
  refine Pv.istore (lo' := [some (.ref 36), some (.ref 3), some (.ref r), some (.int (F.1 3 5)), none, none]) rfl rfl ?_
  refine Pv.iload rfl rfl ?_
  refine Pv.lit rfl ?_
  refine Pv.icmp rfl (fun c1 => ?_) (fun c1 => ?_)
  · skip
    replace c1 := of_decide_eq_true c1
    refine Pv.lit rfl ?_
    refine Pv.istore (lo' := [some (.ref 36), some (.ref 3), some (.ref r), some (.int (F.1 3 5)), some (.int 0), none]) rfl rfl ?_
    refine Pv.iload rfl rfl ?_
    refine Pv.if0 rfl (fun c2 => ?_) (fun c2 => ?_)
    · skip
      replace c2 : decide ((0 : Int32) = 0) = false := by simpa using c2
      replace c2 := mt (i_eq (a := 0) (b := 0) (by omega) (by omega)).mpr (of_decide_eq_false c2)
      omega
    · skip
      replace c2 : decide ((0 : Int32) = 0) = true := by simpa using c2
      replace c2 := (i_eq (a := 0) (b := 0) (by omega) (by omega)).mp (of_decide_eq_true c2)
      refine Pv.iload rfl rfl ?_
      refine Pv.lit rfl ?_
      refine Pv.icmp rfl (fun c3 => ?_) (fun c3 => ?_)
      · skip
        replace c3 := of_decide_eq_true c3
        (have f8 := Int32.lt_iff_toInt_lt.mp c1; have f32 := congrArg Int32.toInt c3; omega)
      · skip
        replace c3 := of_decide_eq_false c3
        refine Pv.iload rfl rfl ?_
        refine Pv.lit rfl ?_
        refine Pv.icmp rfl (fun c4 => ?_) (fun c4 => ?_)
        · skip
          replace c4 := of_decide_eq_true c4
          refine Pv.iload rfl rfl ?_
          refine Pv.lit rfl ?_
          refine Pv.icmp rfl (fun c5 => ?_) (fun c5 => ?_)
          · skip
            replace c5 : decide (F.1 3 5 = 2) = false := by simpa using c5
            replace c5 := of_decide_eq_false c5
            (have f8 := Int32.lt_iff_toInt_lt.mp c1; have f32 := mt Int32.toInt_inj.mp c3; have f37 := congrArg Int32.toInt c4; have f48 := mt Int32.toInt_inj.mp c5; omega)
          · skip
            replace c5 : decide (F.1 3 5 = 2) = true := by simpa using c5
            replace c5 := of_decide_eq_true c5
            refine Pv.aload rfl rfl ?_
            refine Pv.aload rfl rfl ?_
            refine Pv.getL (z := F.2.2.1 3 8) rfl rfl (rfl) ?_
            have f8 := Int32.lt_iff_toInt_lt.mp c1
            have f32 := mt Int32.toInt_inj.mp c3
            have f37 := congrArg Int32.toInt c4
            have f48 := congrArg Int32.toInt c5
            have k2 : (K i).k = 2 := by omega
            refine Pv.callVI (as := [.ref r, .long (F.2.2.1 3 8)]) (rest := []) (z := oN (m_fst (mP nm (K i).v) (t_m E))) rfl rfl rfl (c_manNamed hG hE hN (hcu.2.2.2 k2) ((hT.v hi).2 k2)) ?_
            refine Pv.goto rfl ?_
            refine Pv.istore (lo' := [some (.ref 36), some (.ref 3), some (.ref r), some (.int (F.1 3 5)), some (.int 0), some (.int (oN (m_fst (mP nm (K i).v) (t_m E))))]) rfl rfl ?_
            refine Pv.iload rfl rfl ?_
            refine Pv.lit rfl ?_
            refine Pv.icmp rfl (fun c6 => ?_) (fun c6 => ?_)
            · skip
              replace c6 : decide (F.1 3 5 = 2) = false := by simpa using c6
              replace c6 := of_decide_eq_false c6
              (have f8 := Int32.lt_iff_toInt_lt.mp c1; have f32 := mt Int32.toInt_inj.mp c3; have f37 := congrArg Int32.toInt c4; have f48 := congrArg Int32.toInt c5; have f67 := mt Int32.toInt_inj.mp c6; omega)
            · skip
              replace c6 : decide (F.1 3 5 = 2) = true := by simpa using c6
              replace c6 := of_decide_eq_true c6
              refine Pv.iload rfl rfl ?_
              refine Pv.lit rfl ?_
              refine Pv.icmp rfl (fun c7 => ?_) (fun c7 => ?_)
              · skip
                replace c7 : decide (oN (m_fst (mP nm (K i).v) (t_m E)) = (-1)) = false := by simpa using c7
                replace c7 := of_decide_eq_false c7
                obtain ⟨w, hw, hz⟩ := mn_y c7
                rw [hz]
                refine Pv.aload rfl rfl ?_
                refine Pv.getI (z := Int32.ofNat c) rfl rfl (h3) ?_
                refine Pv.lit rfl ?_
                refine Pv.icmp rfl (fun c8 => ?_) (fun c8 => ?_)
                · skip
                  replace c8 := (i_lt (a := c) (b := 40) (by omega) (by omega)).mp (of_decide_eq_true c8)
                  have f8 := Int32.lt_iff_toInt_lt.mp c1
                  have f32 := mt Int32.toInt_inj.mp c3
                  have f37 := congrArg Int32.toInt c4
                  have f48 := congrArg Int32.toInt c5
                  have f67 := congrArg Int32.toInt c6
                  have ku := hT.up hi h0 (by omega)
                  refine Pv.iload rfl rfl ?_
                  refine Pv.if0 rfl (fun c9 => ?_) (fun c9 => ?_)
                  · skip
                    replace c9 := (i_eq (a := 0) (b := 0) (by omega) (by omega)).mp (of_decide_eq_true c9)
                    refine Pv.iload rfl rfl ?_
                    refine Pv.lit rfl ?_
                    refine Pv.icmp rfl (fun c10 => ?_) (fun c10 => ?_)
                    · skip
                      replace c10 : decide (F.1 3 5 = 76) = false := by simpa using c10
                      replace c10 := of_decide_eq_false c10
                      refine Pv.aload rfl rfl ?_
                      refine Pv.aload rfl rfl ?_
                      refine Pv.iload rfl rfl ?_
                      refine Pv.callV (as := [.ref 36, .ref 3, .int (Int32.ofNat w)]) (rest := []) rfl rfl rfl (c_readDeath hG hT h4 ku h3 (by omega) w) ?_
                      rintro _ Gz ⟨rfl, hl⟩
                      refine (show Pv _ _ 134 [some (.ref 36), some (.ref 3), some (.ref r), some (.int (F.1 3 5)), some (.int 0), some (.int (Int32.ofNat w))] [.int (ll_b (ll_death K w i))] Gz Q from ?_)
                      exact Pv.zret rfl (by rw [hQ]; exact LLP.to (by unfold ll; rw [if_neg (by omega), if_neg (by omega), if_pos (by omega), hw]; show (if 40 ≤ c then ll_n 4 i else ll_death K w i) = _; rw [if_neg (by omega)]) ⟨rfl, hl⟩)
                    · skip
                      replace c10 : decide (F.1 3 5 = 76) = true := by simpa using c10
                      replace c10 := of_decide_eq_true c10
                      (have f8 := Int32.lt_iff_toInt_lt.mp c1; have f32 := mt Int32.toInt_inj.mp c3; have f37 := congrArg Int32.toInt c4; have f48 := congrArg Int32.toInt c5; have f67 := congrArg Int32.toInt c6; have f116 := congrArg Int32.toInt c10; omega)
                  · skip
                    replace c9 := mt (i_eq (a := 0) (b := 0) (by omega) (by omega)).mpr (of_decide_eq_false c9)
                    omega
                · skip
                  replace c8 := mt (i_lt (a := c) (b := 40) (by omega) (by omega)).mpr (of_decide_eq_false c8)
                  refine Pv.aload rfl rfl ?_
                  refine Pv.lit rfl ?_
                  refine Pv.callVI (as := [.ref 3, .int 4]) (rest := []) (z := 0) rfl rfl rfl (c_fail (c := 4)) ?_
                  have f8 := Int32.lt_iff_toInt_lt.mp c1
                  have f32 := mt Int32.toInt_inj.mp c3
                  have f37 := congrArg Int32.toInt c4
                  have f48 := congrArg Int32.toInt c5
                  have f67 := congrArg Int32.toInt c6
                  exact Pv.zret rfl (by rw [hQ]; exact LLP.mk_n (q := 4) (j := i) (by unfold ll; rw [if_neg (by omega), if_neg (by omega), if_pos (by omega), hw]; show (if 40 ≤ c then ll_n 4 i else ll_death K w i) = _; rw [if_pos (by omega)]) (LCX.of (RCX.rf.fp (Or.inr (Or.inr (Or.inr (Or.inr rfl)))))) fp_eq hcu.p9)
              · skip
                replace c7 : decide (oN (m_fst (mP nm (K i).v) (t_m E)) = (-1)) = true := by simpa using c7
                replace c7 := of_decide_eq_true c7
                refine Pv.aload rfl rfl ?_
                refine Pv.lit rfl ?_
                refine Pv.callVI (as := [.ref 3, .int 3]) (rest := []) (z := 0) rfl rfl rfl (c_fail (c := 3)) ?_
                have f8 := Int32.lt_iff_toInt_lt.mp c1
                have f32 := mt Int32.toInt_inj.mp c3
                have f37 := congrArg Int32.toInt c4
                have f48 := congrArg Int32.toInt c5
                have f67 := congrArg Int32.toInt c6
                exact Pv.zret rfl (by rw [hQ]; exact LLP.mk_n (q := 3) (j := i) (by unfold ll; rw [if_neg (by omega), if_neg (by omega), if_pos (by omega), (oN_1 (by omega)).mp c7]; first | done | rfl) (LCX.of (RCX.rf.fp (Or.inr (Or.inr (Or.inr (Or.inr rfl)))))) fp_eq hcu.p9)
        · skip
          replace c4 := of_decide_eq_false c4
          refine Pv.aload rfl rfl ?_
          refine Pv.lit rfl ?_
          refine Pv.callVI (as := [.ref 3, .int 1]) (rest := []) (z := 0) rfl rfl rfl (c_fail (c := 1)) ?_
          have f8 := Int32.lt_iff_toInt_lt.mp c1
          have f32 := mt Int32.toInt_inj.mp c3
          have f37 := mt Int32.toInt_inj.mp c4
          exact Pv.zret rfl (by rw [hQ]; exact LLP.mk_n (q := 1) (j := i) (by unfold ll; rw [if_neg (by omega), if_neg (by omega), if_neg (by omega)]) (LCX.of (RCX.rf.fp (Or.inr (Or.inr (Or.inr (Or.inr rfl)))))) fp_eq hcu.p9)
  · skip
    replace c1 := of_decide_eq_false c1
    refine Pv.iload rfl rfl ?_
    refine Pv.lit rfl ?_
    refine Pv.icmp rfl (fun c11 => ?_) (fun c11 => ?_)
    · skip
      replace c11 := of_decide_eq_true c11
      refine Pv.lit rfl ?_
      refine Pv.istore (lo' := [some (.ref 36), some (.ref 3), some (.ref r), some (.int (F.1 3 5)), some (.int 0), none]) rfl rfl ?_
      refine Pv.iload rfl rfl ?_
      refine Pv.if0 rfl (fun c12 => ?_) (fun c12 => ?_)
      · skip
        replace c12 : decide ((0 : Int32) = 0) = false := by simpa using c12
        replace c12 := mt (i_eq (a := 0) (b := 0) (by omega) (by omega)).mpr (of_decide_eq_false c12)
        omega
      · skip
        replace c12 : decide ((0 : Int32) = 0) = true := by simpa using c12
        replace c12 := (i_eq (a := 0) (b := 0) (by omega) (by omega)).mp (of_decide_eq_true c12)
        refine Pv.iload rfl rfl ?_
        refine Pv.lit rfl ?_
        refine Pv.icmp rfl (fun c13 => ?_) (fun c13 => ?_)
        · skip
          replace c13 := of_decide_eq_true c13
          refine Pv.iload rfl rfl ?_
          refine Pv.lit rfl ?_
          refine Pv.icmp rfl (fun c14 => ?_) (fun c14 => ?_)
          · skip
            replace c14 : decide (F.1 3 5 = 2) = false := by simpa using c14
            replace c14 := of_decide_eq_false c14
            refine Pv.lit rfl ?_
            refine Pv.istore (lo' := [some (.ref 36), some (.ref 3), some (.ref r), some (.int (F.1 3 5)), some (.int 0), some (.int (-1))]) rfl rfl ?_
            refine Pv.iload rfl rfl ?_
            refine Pv.lit rfl ?_
            refine Pv.icmp rfl (fun c15 => ?_) (fun c15 => ?_)
            · skip
              replace c15 : decide (F.1 3 5 = 2) = false := by simpa using c15
              replace c15 := of_decide_eq_false c15
              refine Pv.aload rfl rfl ?_
              refine Pv.getI (z := Int32.ofNat c) rfl rfl (h3) ?_
              refine Pv.lit rfl ?_
              refine Pv.icmp rfl (fun c16 => ?_) (fun c16 => ?_)
              · skip
                replace c16 := (i_lt (a := c) (b := 40) (by omega) (by omega)).mp (of_decide_eq_true c16)
                have f8 := mt Int32.lt_iff_toInt_lt.mpr c1
                have f14 := Int32.lt_iff_toInt_lt.mp c11
                have f32 := congrArg Int32.toInt c13
                have f48 := mt Int32.toInt_inj.mp c14
                have f67 := mt Int32.toInt_inj.mp c15
                have ku := hT.up hi h0 (by omega)
                refine Pv.iload rfl rfl ?_
                refine Pv.if0 rfl (fun c17 => ?_) (fun c17 => ?_)
                · skip
                  replace c17 := (i_eq (a := 0) (b := 0) (by omega) (by omega)).mp (of_decide_eq_true c17)
                  refine Pv.iload rfl rfl ?_
                  refine Pv.lit rfl ?_
                  refine Pv.icmp rfl (fun c18 => ?_) (fun c18 => ?_)
                  · skip
                    replace c18 : decide (F.1 3 5 = 76) = false := by simpa using c18
                    replace c18 := of_decide_eq_false c18
                    (have f8 := mt Int32.lt_iff_toInt_lt.mpr c1; have f14 := Int32.lt_iff_toInt_lt.mp c11; have f32 := congrArg Int32.toInt c13; have f48 := mt Int32.toInt_inj.mp c14; have f67 := mt Int32.toInt_inj.mp c15; have f116 := mt Int32.toInt_inj.mp c18; omega)
                  · skip
                    replace c18 : decide (F.1 3 5 = 76) = true := by simpa using c18
                    replace c18 := of_decide_eq_true c18
                    refine Pv.aload rfl rfl ?_
                    refine Pv.aload rfl rfl ?_
                    refine Pv.callV (as := [.ref 36, .ref 3]) (rest := []) rfl rfl rfl (c_readDays hG hT h4 ku h3 (by omega)) ?_
                    rintro _ Gz ⟨rfl, hl⟩
                    refine (show Pv _ _ 124 [some (.ref 36), some (.ref 3), some (.ref r), some (.int (F.1 3 5)), some (.int 0), some (.int (-1))] [.int (ll_b (ll_days K i))] Gz Q from ?_)
                    refine Pv.goto rfl ?_
                    exact Pv.zret rfl (by rw [hQ]; exact LLP.to (by unfold ll; rw [if_neg (by omega), if_pos (by omega), if_neg (by omega)]) ⟨rfl, hl⟩)
                · skip
                  replace c17 := mt (i_eq (a := 0) (b := 0) (by omega) (by omega)).mpr (of_decide_eq_false c17)
                  omega
              · skip
                replace c16 := mt (i_lt (a := c) (b := 40) (by omega) (by omega)).mpr (of_decide_eq_false c16)
                refine Pv.aload rfl rfl ?_
                refine Pv.lit rfl ?_
                refine Pv.callVI (as := [.ref 3, .int 4]) (rest := []) (z := 0) rfl rfl rfl (c_fail (c := 4)) ?_
                have f8 := mt Int32.lt_iff_toInt_lt.mpr c1
                have f14 := Int32.lt_iff_toInt_lt.mp c11
                have f32 := congrArg Int32.toInt c13
                have f48 := mt Int32.toInt_inj.mp c14
                have f67 := mt Int32.toInt_inj.mp c15
                exact Pv.zret rfl (by rw [hQ]; exact LLP.mk_n (q := 4) (j := i) (by unfold ll; rw [if_neg (by omega), if_pos (by omega), if_pos (by omega)]) (LCX.of (RCX.rf.fp (Or.inr (Or.inr (Or.inr (Or.inr rfl)))))) fp_eq hcu.p9)
            · skip
              replace c15 : decide (F.1 3 5 = 2) = true := by simpa using c15
              replace c15 := of_decide_eq_true c15
              (have f8 := mt Int32.lt_iff_toInt_lt.mpr c1; have f14 := Int32.lt_iff_toInt_lt.mp c11; have f32 := congrArg Int32.toInt c13; have f48 := mt Int32.toInt_inj.mp c14; have f67 := congrArg Int32.toInt c15; omega)
          · skip
            replace c14 : decide (F.1 3 5 = 2) = true := by simpa using c14
            replace c14 := of_decide_eq_true c14
            (have f8 := mt Int32.lt_iff_toInt_lt.mpr c1; have f14 := Int32.lt_iff_toInt_lt.mp c11; have f32 := congrArg Int32.toInt c13; have f48 := congrArg Int32.toInt c14; omega)
        · skip
          replace c13 := of_decide_eq_false c13
          refine Pv.iload rfl rfl ?_
          refine Pv.lit rfl ?_
          refine Pv.icmp rfl (fun c19 => ?_) (fun c19 => ?_)
          · skip
            replace c19 := of_decide_eq_true c19
            (have f8 := mt Int32.lt_iff_toInt_lt.mpr c1; have f14 := Int32.lt_iff_toInt_lt.mp c11; have f32 := mt Int32.toInt_inj.mp c13; have f37 := congrArg Int32.toInt c19; omega)
          · skip
            replace c19 := of_decide_eq_false c19
            refine Pv.aload rfl rfl ?_
            refine Pv.lit rfl ?_
            refine Pv.callVI (as := [.ref 3, .int 1]) (rest := []) (z := 0) rfl rfl rfl (c_fail (c := 1)) ?_
            have f8 := mt Int32.lt_iff_toInt_lt.mpr c1
            have f14 := Int32.lt_iff_toInt_lt.mp c11
            have f32 := mt Int32.toInt_inj.mp c13
            have f37 := mt Int32.toInt_inj.mp c19
            exact Pv.zret rfl (by rw [hQ]; exact LLP.mk_n (q := 1) (j := i) (by unfold ll; rw [if_neg (by omega), if_neg (by omega), if_neg (by omega)]) (LCX.of (RCX.rf.fp (Or.inr (Or.inr (Or.inr (Or.inr rfl)))))) fp_eq hcu.p9)
    · skip
      replace c11 := of_decide_eq_false c11
      refine Pv.lit rfl ?_
      refine Pv.goto rfl ?_
      refine Pv.istore (lo' := [some (.ref 36), some (.ref 3), some (.ref r), some (.int (F.1 3 5)), some (.int 1), none]) rfl rfl ?_
      refine Pv.iload rfl rfl ?_
      refine Pv.if0 rfl (fun c20 => ?_) (fun c20 => ?_)
      · skip
        replace c20 : decide ((1 : Int32) = 0) = false := by simpa using c20
        replace c20 := mt (i_eq (a := 1) (b := 0) (by omega) (by omega)).mpr (of_decide_eq_false c20)
        refine Pv.iload rfl rfl ?_
        refine Pv.lit rfl ?_
        refine Pv.icmp rfl (fun c21 => ?_) (fun c21 => ?_)
        · skip
          replace c21 : decide (F.1 3 5 = 2) = false := by simpa using c21
          replace c21 := of_decide_eq_false c21
          refine Pv.lit rfl ?_
          refine Pv.istore (lo' := [some (.ref 36), some (.ref 3), some (.ref r), some (.int (F.1 3 5)), some (.int 1), some (.int (-1))]) rfl rfl ?_
          refine Pv.iload rfl rfl ?_
          refine Pv.lit rfl ?_
          refine Pv.icmp rfl (fun c22 => ?_) (fun c22 => ?_)
          · skip
            replace c22 : decide (F.1 3 5 = 2) = false := by simpa using c22
            replace c22 := of_decide_eq_false c22
            refine Pv.aload rfl rfl ?_
            refine Pv.getI (z := Int32.ofNat c) rfl rfl (h3) ?_
            refine Pv.lit rfl ?_
            refine Pv.icmp rfl (fun c23 => ?_) (fun c23 => ?_)
            · skip
              replace c23 := (i_lt (a := c) (b := 40) (by omega) (by omega)).mp (of_decide_eq_true c23)
              have f8 := mt Int32.lt_iff_toInt_lt.mpr c1
              have f14 := mt Int32.lt_iff_toInt_lt.mpr c11
              have f48 := mt Int32.toInt_inj.mp c21
              have f67 := mt Int32.toInt_inj.mp c22
              have ku := hT.up hi h0 (by omega)
              refine Pv.iload rfl rfl ?_
              refine Pv.if0 rfl (fun c24 => ?_) (fun c24 => ?_)
              · skip
                replace c24 := (i_eq (a := 1) (b := 0) (by omega) (by omega)).mp (of_decide_eq_true c24)
                omega
              · skip
                replace c24 := mt (i_eq (a := 1) (b := 0) (by omega) (by omega)).mpr (of_decide_eq_false c24)
                refine Pv.aload rfl rfl ?_
                refine Pv.aload rfl rfl ?_
                refine Pv.aload rfl rfl ?_
                refine Pv.iload rfl rfl ?_
                refine Pv.lit rfl ?_
                refine Pv.bin (z := Int32.ofNat (((K i).k - 72).toNat)) rfl (kd72 hk (by omega) (by omega)) ?_
                refine Pv.callV (as := [.ref 36, .ref 3, .ref r, .int (Int32.ofNat (((K i).k - 72).toNat))]) (rest := []) rfl rfl rfl (c_readDeed hG hT h4 ku h3 (by omega) hE hN hr ((K i).k - 72).toNat) ?_
                rintro _ Gz ⟨rfl, hl⟩
                refine (show Pv _ _ 112 [some (.ref 36), some (.ref 3), some (.ref r), some (.int (F.1 3 5)), some (.int 1), some (.int (-1))] [.int (ll_b (ll_deed K nm (t_g E) ((K i).k - 72).toNat i))] Gz Q from ?_)
                exact Pv.zret rfl (by rw [hQ]; exact LLP.to (by unfold ll; rw [if_pos ⟨by omega, by omega⟩, if_neg (by omega)]) ⟨rfl, hl⟩)
            · skip
              replace c23 := mt (i_lt (a := c) (b := 40) (by omega) (by omega)).mpr (of_decide_eq_false c23)
              refine Pv.aload rfl rfl ?_
              refine Pv.lit rfl ?_
              refine Pv.callVI (as := [.ref 3, .int 4]) (rest := []) (z := 0) rfl rfl rfl (c_fail (c := 4)) ?_
              have f8 := mt Int32.lt_iff_toInt_lt.mpr c1
              have f14 := mt Int32.lt_iff_toInt_lt.mpr c11
              have f48 := mt Int32.toInt_inj.mp c21
              have f67 := mt Int32.toInt_inj.mp c22
              exact Pv.zret rfl (by rw [hQ]; exact LLP.mk_n (q := 4) (j := i) (by unfold ll; rw [if_pos ⟨by omega, by omega⟩, if_pos (by omega)]) (LCX.of (RCX.rf.fp (Or.inr (Or.inr (Or.inr (Or.inr rfl)))))) fp_eq hcu.p9)
          · skip
            replace c22 : decide (F.1 3 5 = 2) = true := by simpa using c22
            replace c22 := of_decide_eq_true c22
            (have f8 := mt Int32.lt_iff_toInt_lt.mpr c1; have f14 := mt Int32.lt_iff_toInt_lt.mpr c11; have f48 := mt Int32.toInt_inj.mp c21; have f67 := congrArg Int32.toInt c22; omega)
        · skip
          replace c21 : decide (F.1 3 5 = 2) = true := by simpa using c21
          replace c21 := of_decide_eq_true c21
          (have f8 := mt Int32.lt_iff_toInt_lt.mpr c1; have f14 := mt Int32.lt_iff_toInt_lt.mpr c11; have f48 := congrArg Int32.toInt c21; omega)
      · skip
        replace c20 : decide ((1 : Int32) = 0) = true := by simpa using c20
        replace c20 := (i_eq (a := 1) (b := 0) (by omega) (by omega)).mp (of_decide_eq_true c20)
        omega
