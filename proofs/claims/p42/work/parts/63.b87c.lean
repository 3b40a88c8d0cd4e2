set_option maxRecDepth 100000 in
set_option maxHeartbeats 4000000 in
theorem r_does3 {F : FW} {T : St} {S : Sh} {w : Nat} (hT : XT F T) (hS : XS F (t_m T) S) (hG : GW F) (hw : w < t_m T) (u v : Int32) : Pm Z_X11_does [.ref 69, .int 3, .int (Int32.ofNat w), .int u, .int v] F (fun r F' => r = some (.int (jw S (3, w, 0))) ∧ RXS F F' ∧ XS F' (t_m T) (js T S (3, w, 0))) := by
  refine Pm.of fun N => ?_
  obtain ⟨Q, hQ⟩ : ∃ Q : Option Value → FW → Prop, Q = (fun r F' => r = some (.int (jw S (3, w, 0))) ∧ RXS F F' ∧ XS F' (t_m T) (js T S (3, w, 0))) := ⟨_, rfl⟩
  rw [← hQ]
  have b3 := hT.mb
  have b4 := hT.nb
  have b5 := hT.gb
  have b6 := m_from_lt S
  have b7 := hS.db
  refine (show Pv (ab_T (L_X11_does Z_X11_cell Z_X11_isDead Z_X11_whyBare Z_X11_whyHoard Z_X11_hoards Z_X11_goesOn)) N 0 [some (.ref 69), some (.int 3), some (.int (Int32.ofNat w)), some (.int u), some (.int v), none, none] [] F Q from ?_)
  refine Pv.iload rfl rfl ?_
  refine Pv.iload rfl rfl ?_
  refine Pv.call (as := [.int (Int32.ofNat w), .int u]) (rest := []) rfl rfl rfl (g_cellx (Int32.ofNat w) u) ?_
  rintro _ Fe ⟨⟨z1, rfl⟩, ee⟩
  obtain rfl := ee.symm
  refine (show Pv _ _ 5 [some (.ref 69), some (.int 3), some (.int (Int32.ofNat w)), some (.int u), some (.int v), none, none] [.int z1] F Q from ?_)
  refine Pv.istore (lo' := [some (.ref 69), some (.int 3), some (.int (Int32.ofNat w)), some (.int u), some (.int v), some (.int z1), none]) rfl rfl ?_
  refine Pv.iload rfl rfl ?_
  refine Pv.lit rfl ?_
  refine Pv.icmp rfl (fun c2 => ?_) (fun c2 => ?_)
  · skip
    replace c2 : decide ((3 : Int32) = 3) = false := by simpa using c2
    replace c2 := mt (i_eq (a := 3) (b := 3) (by omega) (by omega)).mpr (of_decide_eq_false c2)
    omega
  · skip
    replace c2 : decide ((3 : Int32) = 3) = true := by simpa using c2
    replace c2 := (i_eq (a := 3) (b := 3) (by omega) (by omega)).mp (of_decide_eq_true c2)
    refine Pv.aload rfl rfl ?_
    refine Pv.iload rfl rfl ?_
    refine Pv.callVI (as := [.ref 69, .int (Int32.ofNat w)]) (rest := []) (z := b2i (!m_alive S w)) rfl rfl rfl (g_isDead (o := 0) hS.xd hG hw) ?_
    refine Pv.if0 rfl (fun c3 => ?_) (fun c3 => ?_)
    · skip
      replace c3 := of_decide_eq_true c3
      replace c3 := b2z.mp c3
      refine Pv.lit rfl ?_
      refine Pv.goto rfl ?_
      refine Pv.istore (lo' := [some (.ref 69), some (.int 3), some (.int (Int32.ofNat w)), some (.int u), some (.int v), some (.int z1), some (.int 0)]) rfl rfl ?_
      refine Pv.iload rfl rfl ?_
      refine Pv.if0 rfl (fun c4 => ?_) (fun c4 => ?_)
      · skip
        replace c4 := (i_le (a := 0) (b := 0) (by omega) (by omega)).mp (of_decide_eq_true c4)
        refine Pv.iload rfl rfl ?_
        refine Pv.if0 rfl (fun c5 => ?_) (fun c5 => ?_)
        · skip
          replace c5 : decide ((3 : Int32) = 0) = false := by simpa using c5
          replace c5 := mt (i_eq (a := 3) (b := 0) (by omega) (by omega)).mpr (of_decide_eq_false c5)
          refine Pv.iload rfl rfl ?_
          refine Pv.lit rfl ?_
          refine Pv.icmp rfl (fun c6 => ?_) (fun c6 => ?_)
          · skip
            replace c6 : decide ((3 : Int32) = 1) = false := by simpa using c6
            replace c6 := mt (i_eq (a := 3) (b := 1) (by omega) (by omega)).mpr (of_decide_eq_false c6)
            refine Pv.iload rfl rfl ?_
            refine Pv.lit rfl ?_
            refine Pv.icmp rfl (fun c7 => ?_) (fun c7 => ?_)
            · skip
              replace c7 : decide ((3 : Int32) = 2) = false := by simpa using c7
              replace c7 := mt (i_eq (a := 3) (b := 2) (by omega) (by omega)).mpr (of_decide_eq_false c7)
              refine Pv.iload rfl rfl ?_
              refine Pv.lit rfl ?_
              refine Pv.icmp rfl (fun c8 => ?_) (fun c8 => ?_)
              · skip
                replace c8 : decide ((3 : Int32) = 3) = false := by simpa using c8
                replace c8 := mt (i_eq (a := 3) (b := 3) (by omega) (by omega)).mpr (of_decide_eq_false c8)
                omega
              · skip
                replace c8 : decide ((3 : Int32) = 3) = true := by simpa using c8
                replace c8 := (i_eq (a := 3) (b := 3) (by omega) (by omega)).mp (of_decide_eq_true c8)
                refine Pv.aload rfl rfl ?_
                refine Pv.getR (v := .ref 71) rfl rfl (GW.at (a := 69) (k := 6) (b := 71) hG (by decide)) ?_
                refine Pv.lit rfl ?_
                refine Pv.dup2 rfl ?_
                refine Pv.ald (z := F.1 71 180) rfl (rfl) ?_
                refine Pv.lit rfl ?_
                refine Pv.iload rfl rfl ?_
                refine Pv.bin (z := 1 <<< ((Int32.ofNat w) &&& 31)) rfl (rfl) ?_
                refine Pv.bin (z := (F.1 71 180) ||| (1 <<< ((Int32.ofNat w) &&& 31))) rfl (rfl) ?_
                refine Pv.astk (k := 180) (z := (F.1 71 180) ||| (1 <<< ((Int32.ofNat w) &&& 31))) rfl (rfl) (rfl) ?_
                refine Pv.goto rfl ?_
                refine Pv.lit rfl ?_
                have al : m_alive S w = true := by have q := c3; simpa using q
                have ew : m_why 3 S w (Int32.ofNat 0) = 0 := if_pos al
                exact Pv.ret rfl (by rw [hQ]; exact ⟨by unfold jw; rw [if_neg (show ¬ 3 = 4 by decide), if_pos ew], RXS.st RXS.rf (by omega) (by omega), by unfold js; rw [if_neg (show ¬ 3 = 4 by decide)]; exact XS.die3b hS b3 hw rfl⟩)
            · skip
              replace c7 : decide ((3 : Int32) = 2) = true := by simpa using c7
              replace c7 := (i_eq (a := 3) (b := 2) (by omega) (by omega)).mp (of_decide_eq_true c7)
              omega
          · skip
            replace c6 : decide ((3 : Int32) = 1) = true := by simpa using c6
            replace c6 := (i_eq (a := 3) (b := 1) (by omega) (by omega)).mp (of_decide_eq_true c6)
            omega
        · skip
          replace c5 : decide ((3 : Int32) = 0) = true := by simpa using c5
          replace c5 := (i_eq (a := 3) (b := 0) (by omega) (by omega)).mp (of_decide_eq_true c5)
          omega
      · skip
        replace c4 := mt (i_le (a := 0) (b := 0) (by omega) (by omega)).mpr (of_decide_eq_false c4)
        omega
    · skip
      replace c3 := of_decide_eq_false c3
      replace c3 := b2n.mp c3
      refine Pv.lit rfl ?_
      refine Pv.goto rfl ?_
      refine Pv.istore (lo' := [some (.ref 69), some (.int 3), some (.int (Int32.ofNat w)), some (.int u), some (.int v), some (.int z1), some (.int 1)]) rfl rfl ?_
      refine Pv.iload rfl rfl ?_
      refine Pv.if0 rfl (fun c9 => ?_) (fun c9 => ?_)
      · skip
        replace c9 := (i_le (a := 1) (b := 0) (by omega) (by omega)).mp (of_decide_eq_true c9)
        omega
      · skip
        replace c9 := mt (i_le (a := 1) (b := 0) (by omega) (by omega)).mpr (of_decide_eq_false c9)
        refine Pv.lit rfl ?_
        refine Pv.iload rfl rfl ?_
        refine Pv.bin (z := Int32.ofNat (10 * 3)) rfl (i_mul 10 3) ?_
        refine Pv.iload rfl rfl ?_
        refine Pv.bin (z := Int32.ofNat ((10 * 3) + 1)) rfl (i_add (10 * 3) 1) ?_
        have al : m_alive S w = false := by have q := c3; simpa using q
        have e1 : m_why 3 S w (Int32.ofNat 0) = 1 := if_neg (by rw [al]; decide)
        have ew : ¬ m_why 3 S w (Int32.ofNat 0) = 0 := by rw [e1]; decide
        exact Pv.ret rfl (by rw [hQ]; exact ⟨by unfold jw; rw [if_neg (show ¬ 3 = 4 by decide), if_neg ew, e1]; first | done | rfl, RXS.rf, by unfold js; rw [if_neg (show ¬ 3 = 4 by decide), try_n (d := 3) ew]; exact hS⟩)
