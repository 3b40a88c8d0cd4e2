set_option maxRecDepth 100000 in
set_option maxHeartbeats 4000000 in
theorem g_cellx {F : FW} (x y : Int32) : Pm Z_X11_cell [.int x, .int y] F (fun r F' => (∃ z, r = some (.int z)) ∧ F' = F) := by
  refine Pm.of fun N => ?_
  obtain ⟨Q, hQ⟩ : ∃ Q : Option Value → FW → Prop, Q = (fun r F' => (∃ z, r = some (.int z)) ∧ F' = F) := ⟨_, rfl⟩
  rw [← hQ]
  refine (show Pv (ab_T L_X11_cell) N 0 [some (.int x), some (.int y)] [] F Q from ?_)
  refine Pv.lit rfl ?_
  refine Pv.iload rfl rfl ?_
  refine Pv.bin (z := 2 * x) rfl (rfl) ?_
  refine Pv.iload rfl rfl ?_
  refine Pv.bin (z := (2 * x) + y) rfl (rfl) ?_
  exact Pv.ret rfl (by rw [hQ]; exact ⟨⟨_, rfl⟩, rfl⟩)
set_option maxRecDepth 100000 in
set_option maxHeartbeats 4000000 in
theorem r_does4 {F : FW} {T : St} {S : Sh} {x : Nat} (hT : XT F T) (hS : XS F (t_m T) S) (hG : GW F) (hTB : TBB T) (hI : INV T S) (hx60 : x ≤ 60) (u v : Int32) : Pm Z_X11_does [.ref 69, .int 4, .int (Int32.ofNat x), .int u, .int v] F (fun r F' => r = some (.int (jw S (4, 0, x))) ∧ RXS F F' ∧ XS F' (t_m T) (js T S (4, 0, x))) := by
  refine Pm.of fun N => ?_
  obtain ⟨Q, hQ⟩ : ∃ Q : Option Value → FW → Prop, Q = (fun r F' => r = some (.int (jw S (4, 0, x))) ∧ RXS F F' ∧ XS F' (t_m T) (js T S (4, 0, x))) := ⟨_, rfl⟩
  rw [← hQ]
  have b3 := hT.mb
  have b4 := hT.nb
  have b5 := hT.gb
  have b6 := m_from_lt S
  have b7 := hS.db
  refine (show Pv (ab_T (L_X11_does Z_X11_cell Z_X11_isDead Z_X11_whyBare Z_X11_whyHoard Z_X11_hoards Z_X11_goesOn)) N 0 [some (.ref 69), some (.int 4), some (.int (Int32.ofNat x)), some (.int u), some (.int v), none, none] [] F Q from ?_)
  refine Pv.iload rfl rfl ?_
  refine Pv.iload rfl rfl ?_
  refine Pv.call (as := [.int (Int32.ofNat x), .int u]) (rest := []) rfl rfl rfl (g_cellx (Int32.ofNat x) u) ?_
  rintro _ Fe ⟨⟨z1, rfl⟩, ee⟩
  obtain rfl := ee.symm
  refine (show Pv _ _ 5 [some (.ref 69), some (.int 4), some (.int (Int32.ofNat x)), some (.int u), some (.int v), none, none] [.int z1] F Q from ?_)
  refine Pv.istore (lo' := [some (.ref 69), some (.int 4), some (.int (Int32.ofNat x)), some (.int u), some (.int v), some (.int z1), none]) rfl rfl ?_
  refine Pv.iload rfl rfl ?_
  refine Pv.lit rfl ?_
  refine Pv.icmp rfl (fun c2 => ?_) (fun c2 => ?_)
  · skip
    replace c2 : decide ((4 : Int32) = 3) = false := by simpa using c2
    replace c2 := mt (i_eq (a := 4) (b := 3) (by omega) (by omega)).mpr (of_decide_eq_false c2)
    refine Pv.iload rfl rfl ?_
    refine Pv.lit rfl ?_
    refine Pv.icmp rfl (fun c3 => ?_) (fun c3 => ?_)
    · skip
      replace c3 : decide ((4 : Int32) = 4) = false := by simpa using c3
      replace c3 := mt (i_eq (a := 4) (b := 4) (by omega) (by omega)).mpr (of_decide_eq_false c3)
      omega
    · skip
      replace c3 : decide ((4 : Int32) = 4) = true := by simpa using c3
      replace c3 := (i_eq (a := 4) (b := 4) (by omega) (by omega)).mp (of_decide_eq_true c3)
      refine Pv.aload rfl rfl ?_
      refine Pv.getR (v := .ref 71) rfl rfl (GW.at (a := 69) (k := 6) (b := 71) hG (by decide)) ?_
      refine Pv.lit rfl ?_
      refine Pv.ald (z := Int32.ofNat (h_d S)) rfl (hS.d) ?_
      refine Pv.iload rfl rfl ?_
      refine Pv.bin (z := Int32.ofNat ((h_d S) + x)) rfl (i_add (h_d S) x) ?_
      refine Pv.lit rfl ?_
      refine Pv.icmp rfl (fun c4 => ?_) (fun c4 => ?_)
      · skip
        replace c4 := (i_le (a := (h_d S) + x) (b := 400) (by omega) (by omega)).mp (of_decide_eq_true c4)
        refine Pv.lit rfl ?_
        refine Pv.goto rfl ?_
        refine Pv.istore (lo' := [some (.ref 69), some (.int 4), some (.int (Int32.ofNat x)), some (.int u), some (.int v), some (.int z1), some (.int 0)]) rfl rfl ?_
        refine Pv.iload rfl rfl ?_
        refine Pv.if0 rfl (fun c5 => ?_) (fun c5 => ?_)
        · skip
          replace c5 := (i_le (a := 0) (b := 0) (by omega) (by omega)).mp (of_decide_eq_true c5)
          refine Pv.iload rfl rfl ?_
          refine Pv.if0 rfl (fun c6 => ?_) (fun c6 => ?_)
          · skip
            replace c6 : decide ((4 : Int32) = 0) = false := by simpa using c6
            replace c6 := mt (i_eq (a := 4) (b := 0) (by omega) (by omega)).mpr (of_decide_eq_false c6)
            refine Pv.iload rfl rfl ?_
            refine Pv.lit rfl ?_
            refine Pv.icmp rfl (fun c7 => ?_) (fun c7 => ?_)
            · skip
              replace c7 : decide ((4 : Int32) = 1) = false := by simpa using c7
              replace c7 := mt (i_eq (a := 4) (b := 1) (by omega) (by omega)).mpr (of_decide_eq_false c7)
              refine Pv.iload rfl rfl ?_
              refine Pv.lit rfl ?_
              refine Pv.icmp rfl (fun c8 => ?_) (fun c8 => ?_)
              · skip
                replace c8 : decide ((4 : Int32) = 2) = false := by simpa using c8
                replace c8 := mt (i_eq (a := 4) (b := 2) (by omega) (by omega)).mpr (of_decide_eq_false c8)
                refine Pv.iload rfl rfl ?_
                refine Pv.lit rfl ?_
                refine Pv.icmp rfl (fun c9 => ?_) (fun c9 => ?_)
                · skip
                  replace c9 : decide ((4 : Int32) = 3) = false := by simpa using c9
                  replace c9 := mt (i_eq (a := 4) (b := 3) (by omega) (by omega)).mpr (of_decide_eq_false c9)
                  refine Pv.aload rfl rfl ?_
                  refine Pv.iload rfl rfl ?_
                  refine Pv.callV (as := [.ref 69, .int (Int32.ofNat x)]) (rest := []) rfl rfl rfl (g_goesOn (n := x) hT hS hG hTB (INV.sb hI) (by omega)) ?_
                  rintro _ G ⟨rfl, x1, x2⟩
                  refine (show Pv _ _ 177 [some (.ref 69), some (.int 4), some (.int (Int32.ofNat x)), some (.int u), some (.int v), some (.int z1), some (.int 0)] [.int (Int32.ofNat (h_d (m_days T S x) - h_d S))] G Q from ?_)
                  refine Pv.pop rfl ?_
                  refine Pv.lit rfl ?_
                  exact Pv.ret rfl (by rw [hQ]; exact ⟨by unfold jw; rw [if_pos (show 4 = 4 by decide), if_pos (show h_d S + x ≤ 400 by omega)], RXS.rx RXS.rf x1, by unfold js; rw [if_pos (show 4 = 4 by decide), if_pos (show h_d S + x ≤ 400 by omega)]; exact x2⟩)
                · skip
                  replace c9 : decide ((4 : Int32) = 3) = true := by simpa using c9
                  replace c9 := (i_eq (a := 4) (b := 3) (by omega) (by omega)).mp (of_decide_eq_true c9)
                  omega
              · skip
                replace c8 : decide ((4 : Int32) = 2) = true := by simpa using c8
                replace c8 := (i_eq (a := 4) (b := 2) (by omega) (by omega)).mp (of_decide_eq_true c8)
                omega
            · skip
              replace c7 : decide ((4 : Int32) = 1) = true := by simpa using c7
              replace c7 := (i_eq (a := 4) (b := 1) (by omega) (by omega)).mp (of_decide_eq_true c7)
              omega
          · skip
            replace c6 : decide ((4 : Int32) = 0) = true := by simpa using c6
            replace c6 := (i_eq (a := 4) (b := 0) (by omega) (by omega)).mp (of_decide_eq_true c6)
            omega
        · skip
          replace c5 := mt (i_le (a := 0) (b := 0) (by omega) (by omega)).mpr (of_decide_eq_false c5)
          omega
      · skip
        replace c4 := mt (i_le (a := (h_d S) + x) (b := 400) (by omega) (by omega)).mpr (of_decide_eq_false c4)
        refine Pv.lit rfl ?_
        refine Pv.goto rfl ?_
        refine Pv.istore (lo' := [some (.ref 69), some (.int 4), some (.int (Int32.ofNat x)), some (.int u), some (.int v), some (.int z1), some (.int 1)]) rfl rfl ?_
        refine Pv.iload rfl rfl ?_
        refine Pv.if0 rfl (fun c10 => ?_) (fun c10 => ?_)
        · skip
          replace c10 := (i_le (a := 1) (b := 0) (by omega) (by omega)).mp (of_decide_eq_true c10)
          omega
        · skip
          replace c10 := mt (i_le (a := 1) (b := 0) (by omega) (by omega)).mpr (of_decide_eq_false c10)
          refine Pv.lit rfl ?_
          refine Pv.iload rfl rfl ?_
          refine Pv.bin (z := Int32.ofNat (10 * 4)) rfl (i_mul 10 4) ?_
          refine Pv.iload rfl rfl ?_
          refine Pv.bin (z := Int32.ofNat ((10 * 4) + 1)) rfl (i_add (10 * 4) 1) ?_
          exact Pv.ret rfl (by rw [hQ]; exact ⟨by unfold jw; rw [if_pos (show 4 = 4 by decide), if_neg (show ¬ h_d S + x ≤ 400 by omega)]; first | done | rfl, RXS.rf, by unfold js; rw [if_pos (show 4 = 4 by decide), if_neg (show ¬ h_d S + x ≤ 400 by omega)]; exact hS⟩)
  · skip
    replace c2 : decide ((4 : Int32) = 3) = true := by simpa using c2
    replace c2 := (i_eq (a := 4) (b := 3) (by omega) (by omega)).mp (of_decide_eq_true c2)
    omega
