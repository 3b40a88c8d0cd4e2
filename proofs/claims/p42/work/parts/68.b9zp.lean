set_option maxRecDepth 100000 in
set_option maxHeartbeats 4000000 in
theorem o_man {F : FW} {t : Nat} {T : St} {S : Sh} (hG : GW F) (ht : F.2.1 0 13 = .ref t) (hT : TR F t T) (hS : SHR F 12 (t_m T) S) (j0 : t = 45 ∨ t = 53) (x w : Int32) : Pm Z_X10_man [.ref 0, .int x, .int w] F (fun r F' => r = some (oM (a_man T S x w)) ∧ F' = F) := by
  refine Pm.of fun N => ?_
  obtain ⟨Q, hQ⟩ : ∃ Q : Option Value → FW → Prop, Q = (fun r F' => r = some (oM (a_man T S x w)) ∧ F' = F) := ⟨_, rfl⟩
  rw [← hQ]
  have b3 := hT.mb
  have b4 := hT.nb
  have b5 := hT.gb
  have b6 := m_from_lt S
  have b7 := hS.db
  refine (show Pv (ab_T (L_X10_man Z_X10_isMan Z_X6_missersOf Z_X6_missedBy Z_X6_isAlive)) N 0 [some (.ref 0), some (.int x), some (.int w)] [] F Q from ?_)
  refine Pv.aload rfl rfl ?_
  refine Pv.iload rfl rfl ?_
  refine Pv.callVI (as := [.ref 0, .int x]) (rest := []) (z := b2i (nd (t_m T) x).isSome) rfl rfl rfl (o_isMan hG ht hT hS j0 x) ?_
  refine Pv.if0 rfl (fun c1 => ?_) (fun c1 => ?_)
  · skip
    replace c1 : decide (b2i (nd (t_m T) x).isSome = 0) = false := by simpa using c1
    replace c1 := of_decide_eq_false c1
    replace c1 := b2n.mp c1
    obtain ⟨m, hm, hml, rfl⟩ := nd_t c1
    refine Pv.iload rfl rfl ?_
    rcases nd_5 w with rfl | rfl | rfl | rfl | rfl | hw
    · refine Pv.tab (t := 52) rfl rfl ?_
      refine Pv.aload rfl rfl ?_
      refine Pv.getR (v := .ref 12) rfl rfl (GW.at (a := 0) (k := 4) (b := 12) hG (by decide)) ?_
      refine Pv.getR (v := .ref 17) rfl rfl (hS.o 4 (by decide)) ?_
      refine Pv.iload rfl rfl ?_
      refine Pv.ald (z := h_a S m) rfl (by rw [i_toNat (by omega)]; exact hS.a _ (by omega)) ?_
      exact Pv.ret rfl (by rw [hQ]; exact ⟨by unfold a_man; rw [hm]; rfl, rfl⟩)
    · refine Pv.tab (t := 62) rfl rfl ?_
      refine Pv.aload rfl rfl ?_
      refine Pv.getR (v := .ref 12) rfl rfl (GW.at (a := 0) (k := 4) (b := 12) hG (by decide)) ?_
      refine Pv.aload rfl rfl ?_
      refine Pv.getR (v := .ref t) rfl rfl (ht) ?_
      refine Pv.iload rfl rfl ?_
      refine Pv.callVI (as := [.ref 12, .ref t, .int (Int32.ofNat m)]) (rest := []) (z := m_missers T S m) rfl rfl rfl (f_missersOf (m := m) hT hS (by omega)) ?_
      exact Pv.ret rfl (by rw [hQ]; exact ⟨by unfold a_man; rw [hm]; rfl, rfl⟩)
    · refine Pv.tab (t := 75) rfl rfl ?_
      refine Pv.aload rfl rfl ?_
      refine Pv.getR (v := .ref 12) rfl rfl (GW.at (a := 0) (k := 4) (b := 12) hG (by decide)) ?_
      refine Pv.aload rfl rfl ?_
      refine Pv.getR (v := .ref t) rfl rfl (ht) ?_
      refine Pv.iload rfl rfl ?_
      refine Pv.callVI (as := [.ref 12, .ref t, .int (Int32.ofNat m)]) (rest := []) (z := m_misses T S m) rfl rfl rfl (f_missedBy (m := m) hT hS (by omega)) ?_
      exact Pv.ret rfl (by rw [hQ]; exact ⟨by unfold a_man; rw [hm]; rfl, rfl⟩)
    · refine Pv.tab (t := 88) rfl rfl ?_
      refine Pv.aload rfl rfl ?_
      refine Pv.getR (v := .ref 12) rfl rfl (GW.at (a := 0) (k := 4) (b := 12) hG (by decide)) ?_
      refine Pv.getR (v := .ref 18) rfl rfl (hS.o 5 (by decide)) ?_
      refine Pv.iload rfl rfl ?_
      refine Pv.ald (z := h_t S m) rfl (by rw [i_toNat (by omega)]; exact hS.t _ (by omega)) ?_
      exact Pv.ret rfl (by rw [hQ]; exact ⟨by unfold a_man; rw [hm]; rfl, rfl⟩)
    · refine Pv.tab (t := 98) rfl rfl ?_
      refine Pv.aload rfl rfl ?_
      refine Pv.getR (v := .ref 12) rfl rfl (GW.at (a := 0) (k := 4) (b := 12) hG (by decide)) ?_
      refine Pv.iload rfl rfl ?_
      refine Pv.callVI (as := [.ref 12, .int (Int32.ofNat m)]) (rest := []) (z := b2i (m_alive S m)) rfl rfl rfl (f_isAlive (m := m) hS (by omega) (by omega)) ?_
      refine Pv.if0 rfl (fun c2 => ?_) (fun c2 => ?_)
      · skip
        replace c2 := of_decide_eq_true c2
        replace c2 := b2z.mp c2
        refine Pv.lit rfl ?_
        exact Pv.ret rfl (by rw [hQ]; exact ⟨by unfold a_man; rw [hm]; exact b2_f c2, rfl⟩)
      · skip
        replace c2 := of_decide_eq_false c2
        replace c2 := b2n.mp c2
        refine Pv.lit rfl ?_
        refine Pv.goto rfl ?_
        exact Pv.ret rfl (by rw [hQ]; exact ⟨by unfold a_man; rw [hm]; exact b2_t c2, rfl⟩)
    · refine Pv.tab (t := 115) rfl (nd_tab hw (by decide)) ?_
      exact Pv.thr rfl (by rw [hQ]; exact ⟨by unfold a_man; rw [hm, hw]; rfl, rfl⟩)
  · skip
    replace c1 : decide (b2i (nd (t_m T) x).isSome = 0) = true := by simpa using c1
    replace c1 := of_decide_eq_true c1
    replace c1 := b2z.mp c1
    exact Pv.thr rfl (by rw [hQ]; exact ⟨by unfold a_man; rw [nd_f c1]; rfl, rfl⟩)
set_option maxRecDepth 100000 in
set_option maxHeartbeats 4000000 in
theorem q_throws1 {F : FW} : Pm Z_X11_throwsIf [.ref 69, .int 1] F (fun r F' => r = some (.int 1) ∧ F' = fp F 69 0 1) := by
  refine Pm.of fun N => ?_
  obtain ⟨Q, hQ⟩ : ∃ Q : Option Value → FW → Prop, Q = (fun r F' => r = some (.int 1) ∧ F' = fp F 69 0 1) := ⟨_, rfl⟩
  rw [← hQ]
  refine (show Pv (ab_T L_X11_throwsIf) N 0 [some (.ref 69), some (.int 1)] [] F Q from ?_)
  refine Pv.aload rfl rfl ?_
  refine Pv.iload rfl rfl ?_
  refine Pv.if0 rfl (fun c1 => ?_) (fun c1 => ?_)
  · skip
    replace c1 := (i_eq (a := 1) (b := 0) (by omega) (by omega)).mp (of_decide_eq_true c1)
    omega
  · skip
    replace c1 := mt (i_eq (a := 1) (b := 0) (by omega) (by omega)).mpr (of_decide_eq_false c1)
    refine Pv.lit rfl ?_
    refine Pv.goto rfl ?_
    refine Pv.putI rfl rfl ?_
    refine Pv.iload rfl rfl ?_
    exact Pv.zret rfl (by rw [hQ]; exact ⟨rfl, rfl⟩)
set_option maxRecDepth 100000 in
set_option maxHeartbeats 4000000 in
theorem q_throws0 {F : FW} : Pm Z_X11_throwsIf [.ref 69, .int 0] F (fun r F' => r = some (.int 0) ∧ F' = fp F 69 0 0) := by
  refine Pm.of fun N => ?_
  obtain ⟨Q, hQ⟩ : ∃ Q : Option Value → FW → Prop, Q = (fun r F' => r = some (.int 0) ∧ F' = fp F 69 0 0) := ⟨_, rfl⟩
  rw [← hQ]
  refine (show Pv (ab_T L_X11_throwsIf) N 0 [some (.ref 69), some (.int 0)] [] F Q from ?_)
  refine Pv.aload rfl rfl ?_
  refine Pv.iload rfl rfl ?_
  refine Pv.if0 rfl (fun c1 => ?_) (fun c1 => ?_)
  · skip
    replace c1 := (i_eq (a := 0) (b := 0) (by omega) (by omega)).mp (of_decide_eq_true c1)
    refine Pv.lit rfl ?_
    refine Pv.putI rfl rfl ?_
    refine Pv.iload rfl rfl ?_
    exact Pv.zret rfl (by rw [hQ]; exact ⟨rfl, rfl⟩)
  · skip
    replace c1 := mt (i_eq (a := 0) (b := 0) (by omega) (by omega)).mpr (of_decide_eq_false c1)
    omega
set_option maxRecDepth 100000 in
set_option maxHeartbeats 4000000 in
theorem q_man {F : FW} {T : St} {S : Sh} (hT : XT F T) (hS : XS F (t_m T) S) (hG : GW F) (x w : Int32) : Pm Z_X11_man [.ref 69, .int x, .int w] F (fun r F' => r = some (.int ((a_man T S x w).getD 0)) ∧ F' = fp F 69 0 (oT (a_man T S x w))) := by
  refine Pm.of fun N => ?_
  obtain ⟨Q, hQ⟩ : ∃ Q : Option Value → FW → Prop, Q = (fun r F' => r = some (.int ((a_man T S x w).getD 0)) ∧ F' = fp F 69 0 (oT (a_man T S x w))) := ⟨_, rfl⟩
  rw [← hQ]
  have b3 := hT.mb
  have b4 := hT.nb
  have b5 := hT.gb
  have b6 := m_from_lt S
  have b7 := hS.db
  refine (show Pv (ab_T (L_X11_man Z_X11_isMan Z_X11_isIn Z_X11_throwsIf Z_X11_isDead Z_X11_missedBy Z_X11_missesOf)) N 0 [some (.ref 69), some (.int x), some (.int w)] [] F Q from ?_)
  refine Pv.aload rfl rfl ?_
  refine Pv.aload rfl rfl ?_
  refine Pv.iload rfl rfl ?_
  refine Pv.callVI (as := [.ref 69, .int x]) (rest := [.ref 69]) (z := b2i (nd (t_m T) x).isSome) rfl rfl rfl (q_isMan hT hG x) ?_
  refine Pv.if0 rfl (fun c1 => ?_) (fun c1 => ?_)
  · skip
    replace c1 := of_decide_eq_true c1
    replace c1 := b2z.mp c1
    refine Pv.lit rfl ?_
    refine Pv.goto rfl ?_
    refine Pv.callVI (as := [.ref 69, .int 1]) (rest := []) (z := 1) rfl rfl rfl (q_throws1) ?_
    refine Pv.if0 rfl (fun c2 => ?_) (fun c2 => ?_)
    · skip
      replace c2 := (i_eq (a := 1) (b := 0) (by omega) (by omega)).mp (of_decide_eq_true c2)
      omega
    · skip
      replace c2 := mt (i_eq (a := 1) (b := 0) (by omega) (by omega)).mpr (of_decide_eq_false c2)
      refine Pv.lit rfl ?_
      exact Pv.ret rfl (by rw [hQ]; exact ⟨by unfold a_man; rw [nd_f c1]; rfl, by unfold a_man; rw [nd_f c1]; rfl⟩)
  · skip
    replace c1 := of_decide_eq_false c1
    replace c1 := b2n.mp c1
    obtain ⟨k, hm, hml, rfl⟩ := nd_t c1
    refine Pv.iload rfl rfl ?_
    refine Pv.lit rfl ?_
    refine Pv.lit rfl ?_
    refine Pv.callI (as := [.int w, .int 0, .int 4]) (rest := [.ref 69]) (z := b2i (decide (0 ≤ w) && decide (w ≤ 4))) rfl rfl rfl (q_isIn w 0 4) ?_
    refine Pv.if0 rfl (fun c3 => ?_) (fun c3 => ?_)
    · skip
      replace c3 : decide (b2i (decide (0 ≤ w) && decide (w ≤ 4)) = 0) = false := by simpa using c3
      replace c3 := of_decide_eq_false c3
      replace c3 := b2n.mp c3
      refine Pv.lit rfl ?_
      refine Pv.callVI (as := [.ref 69, .int 0]) (rest := []) (z := 0) rfl rfl rfl (q_throws0) ?_
      refine Pv.if0 rfl (fun c4 => ?_) (fun c4 => ?_)
      · skip
        replace c4 := (i_eq (a := 0) (b := 0) (by omega) (by omega)).mp (of_decide_eq_true c4)
        refine Pv.iload rfl rfl ?_
        rcases nd_5 w with rfl | rfl | rfl | rfl | rfl | hw
        · refine Pv.tab (t := 64) rfl rfl ?_
          refine Pv.aload rfl rfl ?_
          refine Pv.iload rfl rfl ?_
          refine Pv.callVI (as := [.ref 69, .int (Int32.ofNat k)]) (rest := []) (z := b2i (!m_alive S k)) rfl rfl rfl (g_isDead (o := 0) (m := k) (hS.xd.fx (P := fun q => q = 69) (((FX.rf (P := fun q => q = 69))).fp rfl) (by decide)) (hG.fx (P := fun _ => True) (((FX.rf (P := fun _ => True))).fp trivial)) (by omega)) ?_
          refine Pv.if0 rfl (fun c5 => ?_) (fun c5 => ?_)
          · skip
            replace c5 := of_decide_eq_true c5
            replace c5 := b2z.mp c5
            have al : m_alive S k = true := by simpa using c5
            refine Pv.aload rfl rfl ?_
            refine Pv.getR (v := .ref 71) rfl rfl (GW.at (a := 69) (k := 6) (b := 71) hG (by decide)) ?_
            refine Pv.lit rfl ?_
            refine Pv.iload rfl rfl ?_
            refine Pv.bin (z := Int32.ofNat (172 + k)) rfl (i_add 172 k) ?_
            refine Pv.ald (z := h_a S k) rfl (by rw [i_toNat (by omega)]; exact (fp_ne (Or.inl (by decide))).trans (hS.a (by omega) al)) ?_
            exact Pv.ret rfl (by rw [hQ]; exact ⟨by unfold a_man; rw [hm]; rfl, by unfold a_man; rw [hm]; rfl⟩)
          · skip
            replace c5 := of_decide_eq_false c5
            replace c5 := b2n.mp c5
            refine Pv.lit rfl ?_
            refine Pv.goto rfl ?_
            exact Pv.ret rfl (by rw [hQ]; exact ⟨by unfold a_man; rw [hm]; exact q_da c5, by unfold a_man; rw [hm]; rfl⟩)
        · refine Pv.tab (t := 87) rfl rfl ?_
          refine Pv.aload rfl rfl ?_
          refine Pv.iload rfl rfl ?_
          refine Pv.callVI (as := [.ref 69, .int (Int32.ofNat k)]) (rest := []) (z := m_bits (fun m => m_does T S m k) id (t_m T)) rfl rfl rfl (g_missedBy (o := k) (hT.fx (P := fun q => q = 69) (((FX.rf (P := fun q => q = 69))).fp rfl) (by decide)) (hS.fx (P := fun q => q = 69) b3 (((FX.rf (P := fun q => q = 69))).fp rfl) (by decide)) (hG.fx (P := fun _ => True) (((FX.rf (P := fun _ => True))).fp trivial)) (by omega)) ?_
          exact Pv.ret rfl (by rw [hQ]; exact ⟨by unfold a_man; rw [hm]; rw [m_missers_eq hT.w]; rfl, by unfold a_man; rw [hm]; rfl⟩)
        · refine Pv.tab (t := 93) rfl rfl ?_
          refine Pv.aload rfl rfl ?_
          refine Pv.iload rfl rfl ?_
          refine Pv.callVI (as := [.ref 69, .int (Int32.ofNat k)]) (rest := []) (z := m_bits (fun o => m_does T S k o) id (t_m T)) rfl rfl rfl (g_missesOf (m := k) (hT.fx (P := fun q => q = 69) (((FX.rf (P := fun q => q = 69))).fp rfl) (by decide)) (hS.fx (P := fun q => q = 69) b3 (((FX.rf (P := fun q => q = 69))).fp rfl) (by decide)) (hG.fx (P := fun _ => True) (((FX.rf (P := fun _ => True))).fp trivial)) (by omega)) ?_
          exact Pv.ret rfl (by rw [hQ]; exact ⟨by unfold a_man; rw [hm]; rw [m_misses_eq hT.w]; rfl, by unfold a_man; rw [hm]; rfl⟩)
        · refine Pv.tab (t := 99) rfl rfl ?_
          refine Pv.aload rfl rfl ?_
          refine Pv.getR (v := .ref 71) rfl rfl (GW.at (a := 69) (k := 6) (b := 71) hG (by decide)) ?_
          refine Pv.lit rfl ?_
          refine Pv.iload rfl rfl ?_
          refine Pv.bin (z := Int32.ofNat (181 + k)) rfl (i_add 181 k) ?_
          refine Pv.ald (z := h_t S k) rfl (by rw [i_toNat (by omega)]; exact (fp_ne (Or.inl (by decide))).trans (hS.t _ (by omega))) ?_
          exact Pv.ret rfl (by rw [hQ]; exact ⟨by unfold a_man; rw [hm]; rfl, by unfold a_man; rw [hm]; rfl⟩)
        · refine Pv.tab (t := 110) rfl rfl ?_
          refine Pv.aload rfl rfl ?_
          refine Pv.iload rfl rfl ?_
          refine Pv.callVI (as := [.ref 69, .int (Int32.ofNat k)]) (rest := []) (z := b2i (!m_alive S k)) rfl rfl rfl (g_isDead (o := 0) (m := k) (hS.xd.fx (P := fun q => q = 69) (((FX.rf (P := fun q => q = 69))).fp rfl) (by decide)) (hG.fx (P := fun _ => True) (((FX.rf (P := fun _ => True))).fp trivial)) (by omega)) ?_
          refine Pv.if0 rfl (fun c6 => ?_) (fun c6 => ?_)
          · skip
            replace c6 := of_decide_eq_true c6
            replace c6 := b2z.mp c6
            refine Pv.lit rfl ?_
            exact Pv.ret rfl (by rw [hQ]; exact ⟨by unfold a_man; rw [hm]; exact q_al1 c6, by unfold a_man; rw [hm]; rfl⟩)
          · skip
            replace c6 := of_decide_eq_false c6
            replace c6 := b2n.mp c6
            refine Pv.lit rfl ?_
            refine Pv.goto rfl ?_
            exact Pv.ret rfl (by rw [hQ]; exact ⟨by unfold a_man; rw [hm]; exact q_al0 c6, by unfold a_man; rw [hm]; rfl⟩)
        · exact (q_y5 c3 hw).elim
      · skip
        replace c4 := mt (i_eq (a := 0) (b := 0) (by omega) (by omega)).mpr (of_decide_eq_false c4)
        omega
    · skip
      replace c3 : decide (b2i (decide (0 ≤ w) && decide (w ≤ 4)) = 0) = true := by simpa using c3
      replace c3 := of_decide_eq_true c3
      replace c3 := b2z.mp c3
      refine Pv.lit rfl ?_
      refine Pv.goto rfl ?_
      refine Pv.callVI (as := [.ref 69, .int 1]) (rest := []) (z := 1) rfl rfl rfl (q_throws1) ?_
      refine Pv.if0 rfl (fun c7 => ?_) (fun c7 => ?_)
      · skip
        replace c7 := (i_eq (a := 1) (b := 0) (by omega) (by omega)).mp (of_decide_eq_true c7)
        omega
      · skip
        replace c7 := mt (i_eq (a := 1) (b := 0) (by omega) (by omega)).mpr (of_decide_eq_false c7)
        refine Pv.lit rfl ?_
        exact Pv.ret rfl (by rw [hQ]; exact ⟨by unfold a_man; rw [hm, q_n5 c3]; rfl, by unfold a_man; rw [hm, q_n5 c3]; rfl⟩)
