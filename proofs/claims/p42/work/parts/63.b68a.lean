set_option maxRecDepth 100000 in
set_option maxHeartbeats 4000000 in
theorem q_loads {F : FW} {T : St} {S : Sh} (hT : XT F T) (hS : XS F (t_m T) S) (hG : GW F) (hTB : TBB T) (hI : INV T S) (x : Int32) : Pm Z_X11_loads [.ref 69, .int x] F (fun r F' => r = some (.int (a_loads T S x)) ∧ RDR F F') := by
  refine Pm.of fun N => ?_
  obtain ⟨Q, hQ⟩ : ∃ Q : Option Value → FW → Prop, Q = (fun r F' => r = some (.int (a_loads T S x)) ∧ RDR F F') := ⟨_, rfl⟩
  rw [← hQ]
  have b3 := hT.mb
  have b4 := hT.nb
  have b5 := hT.gb
  have b6 := m_from_lt S
  have b7 := hS.db
  have hSB := hI.sb
  refine (show Pv (ab_T (L_X11_loads Z_X11_isIn Z_X11_tries Z_X11_goesOn Z_X11_back)) N 0 [some (.ref 69), some (.int x), none, none] [] F Q from ?_)
  refine Pv.aload rfl rfl ?_
  refine Pv.lit rfl ?_
  refine Pv.putI rfl rfl ?_
  refine Pv.iload rfl rfl ?_
  refine Pv.lit rfl ?_
  refine Pv.lit rfl ?_
  refine Pv.callI (as := [.int x, .int 1, .int 60]) (rest := []) (z := b2i (decide (1 ≤ x) && decide (x ≤ 60))) rfl rfl rfl (q_isIn x 1 60) ?_
  refine Pv.if0 rfl (fun c1 => ?_) (fun c1 => ?_)
  · skip
    replace c1 : decide (b2i (decide (1 ≤ x) && decide (x ≤ 60)) = 0) = false := by simpa using c1
    replace c1 := of_decide_eq_false c1
    replace c1 := b2n.mp c1
    obtain ⟨n, hn, hna, hnb, rfl⟩ := ndr_t ((ndr_in (a := 1) (b := 60) (by omega) (by omega)).symm.trans c1)
    refine Pv.aload rfl rfl ?_
    refine Pv.callV (as := [.ref 69]) (rest := []) rfl rfl rfl (g_tries (hG.fx (P := fun _ => True) (((FX.rf (P := fun _ => True))).fp trivial))) ?_
    rintro _ G2 ⟨rfl, x3, y4⟩
    have rt5 := RT.of ((RDR.rf).fp (Or.inl rfl)) x3 y4
    have hs6 := RT.ofS ((RDR.rf).fp (Or.inl rfl)) x3 b3 hS
    have hx7 := RT.T rt5 hT
    have hx8 := RT.G rt5 hG
    refine (show Pv _ _ 21 [some (.ref 69), some (.int (Int32.ofNat n)), none, none] [] G2 Q from ?_)
    refine Pv.aload rfl rfl ?_
    refine Pv.getR (v := .ref 71) rfl rfl (GW.at (a := 69) (k := 6) (b := 71) hx8 (by decide)) ?_
    refine Pv.lit rfl ?_
    refine Pv.ald (z := h_r S) rfl (hs6.r) ?_
    refine Pv.istore (lo' := [some (.ref 69), some (.int (Int32.ofNat n)), some (.int (h_r S)), none]) rfl rfl ?_
    refine Pv.aload rfl rfl ?_
    refine Pv.iload rfl rfl ?_
    refine Pv.callV (as := [.ref 69, .int (Int32.ofNat n)]) (rest := []) rfl rfl rfl (g_goesOn (n := n) hx7 hs6 hx8 hTB (INV.sb hI) (by omega)) ?_
    rintro _ G9 ⟨rfl, x10, hs11⟩
    have rt12 := RT.rx rt5 x10
    have hx13 := RT.T rt12 hT
    have hx14 := RT.G rt12 hG
    have bD15 := XS.db hs11
    refine (show Pv _ _ 34 [some (.ref 69), some (.int (Int32.ofNat n)), some (.int (h_r S)), none] [.int (Int32.ofNat (h_d (m_days T S n) - h_d S))] G9 Q from ?_)
    refine Pv.pop rfl ?_
    refine Pv.aload rfl rfl ?_
    refine Pv.getR (v := .ref 71) rfl rfl (GW.at (a := 69) (k := 6) (b := 71) hx14 (by decide)) ?_
    refine Pv.lit rfl ?_
    refine Pv.ald (z := h_r (m_days T S n)) rfl (hs11.r) ?_
    refine Pv.iload rfl rfl ?_
    refine Pv.bin (z := (h_r (m_days T S n)) - (h_r S)) rfl (rfl) ?_
    refine Pv.istore (lo' := [some (.ref 69), some (.int (Int32.ofNat n)), some (.int (h_r S)), some (.int ((h_r (m_days T S n)) - (h_r S)))]) rfl rfl ?_
    refine Pv.aload rfl rfl ?_
    refine Pv.callV (as := [.ref 69]) (rest := []) rfl rfl rfl (g_back hx14) ?_
    rintro _ G16 ⟨rfl, x17, y18, z19⟩
    have rd20 := RT.bk rt12 x17 y18 z19
    refine (show Pv _ _ 49 [some (.ref 69), some (.int (Int32.ofNat n)), some (.int (h_r S)), some (.int ((h_r (m_days T S n)) - (h_r S)))] [] G16 Q from ?_)
    refine Pv.iload rfl rfl ?_
    exact Pv.ret rfl (by rw [hQ]; exact ⟨by unfold a_loads; rw [hn], rd20⟩)
  · skip
    replace c1 : decide (b2i (decide (1 ≤ x) && decide (x ≤ 60)) = 0) = true := by simpa using c1
    replace c1 := of_decide_eq_true c1
    replace c1 := b2z.mp c1
    refine Pv.lit rfl ?_
    exact Pv.ret rfl (by rw [hQ]; exact ⟨by unfold a_loads; rw [ndr_f ((ndr_in (a := 1) (b := 60) (by omega) (by omega)).symm.trans c1)], (RDR.rf).fp (Or.inl rfl)⟩)
set_option maxRecDepth 100000 in
set_option maxHeartbeats 4000000 in
theorem q_hunger {F : FW} {T : St} {S : Sh} (hT : XT F T) (hS : XS F (t_m T) S) (hG : GW F) (hTB : TBB T) (hI : INV T S) (x y z : Int32) : Pm Z_X11_hunger [.ref 69, .int x, .int y, .int z] F (fun r F' => r = some (.int (a_hunger T S x y z)) ∧ RDR F F') := by
  refine Pm.of fun N => ?_
  obtain ⟨Q, hQ⟩ : ∃ Q : Option Value → FW → Prop, Q = (fun r F' => r = some (.int (a_hunger T S x y z)) ∧ RDR F F') := ⟨_, rfl⟩
  rw [← hQ]
  have b3 := hT.mb
  have b4 := hT.nb
  have b5 := hT.gb
  have b6 := m_from_lt S
  have b7 := hS.db
  have hSB := hI.sb
  refine (show Pv (ab_T (L_X11_hunger Z_X11_isPlace Z_X11_isIn Z_X11_tries Z_X11_cell Z_X11_goesOn Z_X11_back)) N 0 [some (.ref 69), some (.int x), some (.int y), some (.int z), none, none] [] F Q from ?_)
  refine Pv.aload rfl rfl ?_
  refine Pv.lit rfl ?_
  refine Pv.putI rfl rfl ?_
  refine Pv.aload rfl rfl ?_
  refine Pv.iload rfl rfl ?_
  refine Pv.iload rfl rfl ?_
  refine Pv.callVI (as := [.ref 69, .int x, .int y]) (rest := []) (z := b2i ((nd (t_g T) x).isSome && (nd 2 y).isSome)) rfl rfl rfl (q_isPlace (hT.fx (P := fun q => q = 69) (((FX.rf (P := fun q => q = 69))).fp rfl) (by decide)) (hG.fx (P := fun _ => True) (((FX.rf (P := fun _ => True))).fp trivial)) x y) ?_
  refine Pv.if0 rfl (fun c1 => ?_) (fun c1 => ?_)
  · skip
    replace c1 := of_decide_eq_true c1
    replace c1 := b2z.mp c1
    refine Pv.lit rfl ?_
    exact Pv.ret rfl (by rw [hQ]; exact ⟨by unfold a_hunger; rw [aGS_f c1], (RDR.rf).fp (Or.inl rfl)⟩)
  · skip
    replace c1 := of_decide_eq_false c1
    replace c1 := b2n.mp c1
    obtain ⟨g, s, hg, hs, hgl, hsl, rfl, rfl⟩ := gs_t c1
    refine Pv.iload rfl rfl ?_
    refine Pv.lit rfl ?_
    refine Pv.lit rfl ?_
    refine Pv.callI (as := [.int z, .int 1, .int 60]) (rest := []) (z := b2i (decide (1 ≤ z) && decide (z ≤ 60))) rfl rfl rfl (q_isIn z 1 60) ?_
    refine Pv.if0 rfl (fun c2 => ?_) (fun c2 => ?_)
    · skip
      replace c2 : decide (b2i (decide (1 ≤ z) && decide (z ≤ 60)) = 0) = false := by simpa using c2
      replace c2 := of_decide_eq_false c2
      replace c2 := b2n.mp c2
      obtain ⟨n, hn, hna, hnb, rfl⟩ := ndr_t ((ndr_in (a := 1) (b := 60) (by omega) (by omega)).symm.trans c2)
      refine Pv.aload rfl rfl ?_
      refine Pv.callV (as := [.ref 69]) (rest := []) rfl rfl rfl (g_tries (hG.fx (P := fun _ => True) (((FX.rf (P := fun _ => True))).fp trivial))) ?_
      rintro _ G3 ⟨rfl, x4, y5⟩
      have rt6 := RT.of ((RDR.rf).fp (Or.inl rfl)) x4 y5
      have hs7 := RT.ofS ((RDR.rf).fp (Or.inl rfl)) x4 b3 hS
      have hx8 := RT.T rt6 hT
      have hx9 := RT.G rt6 hG
      refine (show Pv _ _ 30 [some (.ref 69), some (.int (Int32.ofNat g)), some (.int (Int32.ofNat s)), some (.int (Int32.ofNat n)), none, none] [] G3 Q from ?_)
      refine Pv.aload rfl rfl ?_
      refine Pv.getR (v := .ref 71) rfl rfl (GW.at (a := 69) (k := 6) (b := 71) hx9 (by decide)) ?_
      refine Pv.lit rfl ?_
      refine Pv.iload rfl rfl ?_
      refine Pv.iload rfl rfl ?_
      refine Pv.callI (as := [.int (Int32.ofNat g), .int (Int32.ofNat s)]) (rest := [.int 148, .ref 71]) (z := Int32.ofNat (2 * g + s)) rfl rfl rfl (g_cell (g := g) (s := s)) ?_
      refine Pv.bin (z := Int32.ofNat (148 + (2 * g + s))) rfl (i_add 148 (2 * g + s)) ?_
      refine Pv.ald (z := h_u S (2 * g + s)) rfl (by rw [i_toNat (by omega)]; exact hs7.u _ (by omega)) ?_
      refine Pv.istore (lo' := [some (.ref 69), some (.int (Int32.ofNat g)), some (.int (Int32.ofNat s)), some (.int (Int32.ofNat n)), some (.int (h_u S (2 * g + s))), none]) rfl rfl ?_
      refine Pv.aload rfl rfl ?_
      refine Pv.iload rfl rfl ?_
      refine Pv.callV (as := [.ref 69, .int (Int32.ofNat n)]) (rest := []) rfl rfl rfl (g_goesOn (n := n) hx8 hs7 hx9 hTB (INV.sb hI) (by omega)) ?_
      rintro _ G10 ⟨rfl, x11, hs12⟩
      have rt13 := RT.rx rt6 x11
      have hx14 := RT.T rt13 hT
      have hx15 := RT.G rt13 hG
      have bD16 := XS.db hs12
      refine (show Pv _ _ 51 [some (.ref 69), some (.int (Int32.ofNat g)), some (.int (Int32.ofNat s)), some (.int (Int32.ofNat n)), some (.int (h_u S (2 * g + s))), none] [.int (Int32.ofNat (h_d (m_days T S n) - h_d S))] G10 Q from ?_)
      refine Pv.pop rfl ?_
      refine Pv.aload rfl rfl ?_
      refine Pv.getR (v := .ref 71) rfl rfl (GW.at (a := 69) (k := 6) (b := 71) hx15 (by decide)) ?_
      refine Pv.lit rfl ?_
      refine Pv.iload rfl rfl ?_
      refine Pv.iload rfl rfl ?_
      refine Pv.callI (as := [.int (Int32.ofNat g), .int (Int32.ofNat s)]) (rest := [.int 148, .ref 71]) (z := Int32.ofNat (2 * g + s)) rfl rfl rfl (g_cell (g := g) (s := s)) ?_
      refine Pv.bin (z := Int32.ofNat (148 + (2 * g + s))) rfl (i_add 148 (2 * g + s)) ?_
      refine Pv.ald (z := h_u (m_days T S n) (2 * g + s)) rfl (by rw [i_toNat (by omega)]; exact hs12.u _ (by omega)) ?_
      refine Pv.iload rfl rfl ?_
      refine Pv.bin (z := (h_u (m_days T S n) (2 * g + s)) - (h_u S (2 * g + s))) rfl (rfl) ?_
      refine Pv.istore (lo' := [some (.ref 69), some (.int (Int32.ofNat g)), some (.int (Int32.ofNat s)), some (.int (Int32.ofNat n)), some (.int (h_u S (2 * g + s))), some (.int ((h_u (m_days T S n) (2 * g + s)) - (h_u S (2 * g + s))))]) rfl rfl ?_
      refine Pv.aload rfl rfl ?_
      refine Pv.callV (as := [.ref 69]) (rest := []) rfl rfl rfl (g_back hx15) ?_
      rintro _ G17 ⟨rfl, x18, y19, z20⟩
      have rd21 := RT.bk rt13 x18 y19 z20
      refine (show Pv _ _ 75 [some (.ref 69), some (.int (Int32.ofNat g)), some (.int (Int32.ofNat s)), some (.int (Int32.ofNat n)), some (.int (h_u S (2 * g + s))), some (.int ((h_u (m_days T S n) (2 * g + s)) - (h_u S (2 * g + s))))] [] G17 Q from ?_)
      refine Pv.iload rfl rfl ?_
      exact Pv.ret rfl (by rw [hQ]; exact ⟨by unfold a_hunger; rw [aGS_t hg hs, hn], rd21⟩)
    · skip
      replace c2 : decide (b2i (decide (1 ≤ z) && decide (z ≤ 60)) = 0) = true := by simpa using c2
      replace c2 := of_decide_eq_true c2
      replace c2 := b2z.mp c2
      refine Pv.lit rfl ?_
      exact Pv.ret rfl (by rw [hQ]; exact ⟨by unfold a_hunger; rw [aGS_t hg hs, ndr_f ((ndr_in (a := 1) (b := 60) (by omega) (by omega)).symm.trans c2)], (RDR.rf).fp (Or.inl rfl)⟩)
set_option maxRecDepth 100000 in
set_option maxHeartbeats 4000000 in
theorem q_crosses {F : FW} {T : St} {S : Sh} (hT : XT F T) (hS : XS F (t_m T) S) (hG : GW F) (hTB : TBB T) (hI : INV T S) (x : Int32) : Pm Z_X11_crosses [.ref 69, .int x] F (fun r F' => r = some (.int (a_crosses T S x)) ∧ RDR F F') := by
  refine Pm.of fun N => ?_
  obtain ⟨Q, hQ⟩ : ∃ Q : Option Value → FW → Prop, Q = (fun r F' => r = some (.int (a_crosses T S x)) ∧ RDR F F') := ⟨_, rfl⟩
  rw [← hQ]
  have b3 := hT.mb
  have b4 := hT.nb
  have b5 := hT.gb
  have b6 := m_from_lt S
  have b7 := hS.db
  have hSB := hI.sb
  refine (show Pv (ab_T (L_X11_crosses Z_X11_isMan Z_X11_isDead Z_X11_tries Z_X11_goesOn Z_X11_back)) N 0 [some (.ref 69), some (.int x), none, none, none] [] F Q from ?_)
  refine Pv.aload rfl rfl ?_
  refine Pv.lit rfl ?_
  refine Pv.putI rfl rfl ?_
  refine Pv.aload rfl rfl ?_
  refine Pv.iload rfl rfl ?_
  refine Pv.callVI (as := [.ref 69, .int x]) (rest := []) (z := b2i (nd (t_m T) x).isSome) rfl rfl rfl (q_isMan (hT.fx (P := fun q => q = 69) (((FX.rf (P := fun q => q = 69))).fp rfl) (by decide)) (hG.fx (P := fun _ => True) (((FX.rf (P := fun _ => True))).fp trivial)) x) ?_
  refine Pv.if0 rfl (fun c1 => ?_) (fun c1 => ?_)
  · skip
    replace c1 := of_decide_eq_true c1
    replace c1 := b2z.mp c1
    refine Pv.lit rfl ?_
    exact Pv.ret rfl (by rw [hQ]; exact ⟨by unfold a_crosses; rw [nd_f c1], (RDR.rf).fp (Or.inl rfl)⟩)
  · skip
    replace c1 := of_decide_eq_false c1
    replace c1 := b2n.mp c1
    obtain ⟨m, hm, hml, rfl⟩ := nd_t c1
    refine Pv.aload rfl rfl ?_
    refine Pv.iload rfl rfl ?_
    refine Pv.callVI (as := [.ref 69, .int (Int32.ofNat m)]) (rest := []) (z := b2i (!m_alive S m)) rfl rfl rfl (g_isDead (o := 0) (m := m) (hS.xd.fx (P := fun q => q = 69) (((FX.rf (P := fun q => q = 69))).fp rfl) (by decide)) (hG.fx (P := fun _ => True) (((FX.rf (P := fun _ => True))).fp trivial)) (by omega)) ?_
    refine Pv.if0 rfl (fun c2 => ?_) (fun c2 => ?_)
    · skip
      replace c2 := of_decide_eq_true c2
      replace c2 := b2z.mp c2
      have al : m_alive S m = true := by simpa using c2
      refine Pv.aload rfl rfl ?_
      refine Pv.callV (as := [.ref 69]) (rest := []) rfl rfl rfl (g_tries (hG.fx (P := fun _ => True) (((FX.rf (P := fun _ => True))).fp trivial))) ?_
      rintro _ G3 ⟨rfl, x4, y5⟩
      have rt6 := RT.of ((RDR.rf).fp (Or.inl rfl)) x4 y5
      have hs7 := RT.ofS ((RDR.rf).fp (Or.inl rfl)) x4 b3 hS
      have hx8 := RT.T rt6 hT
      have hx9 := RT.G rt6 hG
      refine (show Pv _ _ 27 [some (.ref 69), some (.int (Int32.ofNat m)), none, none, none] [] G3 Q from ?_)
      refine Pv.aload rfl rfl ?_
      refine Pv.getR (v := .ref 71) rfl rfl (GW.at (a := 69) (k := 6) (b := 71) hx9 (by decide)) ?_
      refine Pv.lit rfl ?_
      refine Pv.iload rfl rfl ?_
      refine Pv.bin (z := Int32.ofNat (181 + m)) rfl (i_add 181 m) ?_
      refine Pv.ald (z := h_t S m) rfl (by rw [i_toNat (by omega)]; exact hs7.t _ (by omega)) ?_
      refine Pv.istore (lo' := [some (.ref 69), some (.int (Int32.ofNat m)), some (.int (h_t S m)), none, none]) rfl rfl ?_
      refine Pv.lit rfl ?_
      refine Pv.istore (lo' := [some (.ref 69), some (.int (Int32.ofNat m)), some (.int (h_t S m)), some (.int (-1)), none]) rfl rfl ?_
      refine Pv.lit rfl ?_
      refine Pv.istore (lo' := [some (.ref 69), some (.int (Int32.ofNat m)), some (.int (h_t S m)), some (.int (-1)), some (.int 0)]) rfl rfl ?_
      refine Pv.lp (ι := Nat × Int32 × FW) (lof := fun ⟨k, w, G⟩ => [some (.ref 69), some (.int (Int32.ofNat m)), some (.int (h_t S m)), some (.int w), some (.int (Int32.ofNat k))]) (Ff := fun ⟨k, w, G⟩ => G) (P := fun ⟨k, w, G⟩ => k ≤ 100 ∧ RT F G ∧ XS G (t_m T) (m_days T S k) ∧ w = aDay T S (m_fst (pCross T S m) k)) ?_ (0, (-1), G3) (⟨Nat.zero_le _, rt6, hs7, rfl⟩)
      rintro N10 hN11 ⟨k, w, G⟩ hi12 ih13
      refine (show Pv _ _ 43 [some (.ref 69), some (.int (Int32.ofNat m)), some (.int (h_t S m)), some (.int w), some (.int (Int32.ofNat k))] [] G Q from ?_)
      obtain ⟨hk, rt, hxs, hw⟩ := hi12
      have hx14 := RT.T rt hT
      have hx15 := RT.G rt hG
      have bD16 := XS.db hxs
      refine Pv.iloadS rfl rfl ?_
      refine Pv.lit rfl ?_
      refine Pv.icmp rfl (fun c17 => ?_) (fun c17 => ?_)
      · skip
        replace c17 := (i_le (a := 100) (b := k) (by omega) (by omega)).mp (of_decide_eq_true c17)
        refine Pv.aload rfl rfl ?_
        refine Pv.callV (as := [.ref 69]) (rest := []) rfl rfl rfl (g_back hx15) ?_
        rintro _ G18 ⟨rfl, x19, y20, z21⟩
        have rd22 := RT.bk rt x19 y20 z21
        refine (show Pv _ _ 97 [some (.ref 69), some (.int (Int32.ofNat m)), some (.int (h_t S m)), some (.int w), some (.int (Int32.ofNat k))] [] G18 Q from ?_)
        refine Pv.iload rfl rfl ?_
        exact Pv.ret rfl (by rw [hQ]; exact ⟨by unfold a_crosses; rw [hm]; dsimp only; rw [if_pos al]; rw [hw, show k = 100 by omega], rd22⟩)
      · skip
        replace c17 := mt (i_le (a := 100) (b := k) (by omega) (by omega)).mpr (of_decide_eq_false c17)
        refine Pv.iload rfl rfl ?_
        refine Pv.if0 rfl (fun c23 => ?_) (fun c23 => ?_)
        · skip
          replace c23 := of_decide_eq_true c23
          refine Pv.aload rfl rfl ?_
          refine Pv.callV (as := [.ref 69]) (rest := []) rfl rfl rfl (g_back hx15) ?_
          rintro _ G24 ⟨rfl, x25, y26, z27⟩
          have rd28 := RT.bk rt x25 y26 z27
          refine (show Pv _ _ 97 [some (.ref 69), some (.int (Int32.ofNat m)), some (.int (h_t S m)), some (.int w), some (.int (Int32.ofNat k))] [] G24 Q from ?_)
          refine Pv.iload rfl rfl ?_
          exact Pv.ret rfl (by rw [hQ]; exact ⟨by unfold a_crosses; rw [hm]; dsimp only; rw [if_pos al]; rw [hw, aDay_s (k := k) (n := 100) (by omega) (by rw [← hw]; exact Int32.not_lt.mpr c23)], rd28⟩)
        · skip
          replace c23 := of_decide_eq_false c23
          have hb : m_fst (pCross T S m) k = none := aDay_n (fun j => (INV_days hTB hT.gb hI j).db) (by rw [← hw]; exact Int32.not_le.mp c23)
          have g1 := hd_1 T (m_days T S k)
          refine Pv.aload rfl rfl ?_
          refine Pv.lit rfl ?_
          refine Pv.callV (as := [.ref 69, .int 1]) (rest := []) rfl rfl rfl (g_goesOn (n := 1) hx14 hxs hx15 hTB (INV.sb (INV_days hTB hT.gb hI k)) (by omega)) ?_
          rintro _ G29 ⟨rfl, x30, hs31⟩
          have rt32 := RT.rx rt x30
          have hx33 := RT.T rt32 hT
          have hx34 := RT.G rt32 hG
          have bD35 := XS.db hs31
          refine (show Pv _ _ 59 [some (.ref 69), some (.int (Int32.ofNat m)), some (.int (h_t S m)), some (.int w), some (.int (Int32.ofNat k))] [.int (Int32.ofNat (h_d (m_days T (m_days T S k) 1) - h_d (m_days T S k)))] G29 Q from ?_)
          refine Pv.lit rfl ?_
          refine Pv.icmp rfl (fun c36 => ?_) (fun c36 => ?_)
          · skip
            replace c36 : decide (Int32.ofNat (h_d (m_days T (m_days T S k) 1) - h_d (m_days T S k)) = 1) = false := by simpa using c36
            replace c36 := mt (i_eq (a := h_d (m_days T (m_days T S k) 1) - h_d (m_days T S k)) (b := 1) (by omega) (by omega)).mpr (of_decide_eq_false c36)
            refine Pv.aload rfl rfl ?_
            refine Pv.callV (as := [.ref 69]) (rest := []) rfl rfl rfl (g_back hx34) ?_
            rintro _ G37 ⟨rfl, x38, y39, z40⟩
            have rd41 := RT.bk rt32 x38 y39 z40
            refine (show Pv _ _ 97 [some (.ref 69), some (.int (Int32.ofNat m)), some (.int (h_t S m)), some (.int w), some (.int (Int32.ofNat k))] [] G37 Q from ?_)
            refine Pv.iload rfl rfl ?_
            exact Pv.ret rfl (by rw [hQ]; exact ⟨by unfold a_crosses; rw [hm]; dsimp only; rw [if_pos al]; rw [hw, hb, m_fst_z hb (by omega) (fun i hi => by unfold pCross; rw [decide_eq_false (by rw [m_days_400 (by omega) hi]; omega)]; rfl)], rd41⟩)
          · skip
            replace c36 : decide (Int32.ofNat (h_d (m_days T (m_days T S k) 1) - h_d (m_days T S k)) = 1) = true := by simpa using c36
            replace c36 := (i_eq (a := h_d (m_days T (m_days T S k) 1) - h_d (m_days T S k)) (b := 1) (by omega) (by omega)).mp (of_decide_eq_true c36)
            refine Pv.aload rfl rfl ?_
            refine Pv.getR (v := .ref 71) rfl rfl (GW.at (a := 69) (k := 6) (b := 71) hx34 (by decide)) ?_
            refine Pv.lit rfl ?_
            refine Pv.iload rfl rfl ?_
            refine Pv.bin (z := Int32.ofNat (181 + m)) rfl (i_add 181 m) ?_
            refine Pv.ald (z := h_t (m_days T (m_days T S k) 1) m) rfl (by rw [i_toNat (by omega)]; exact hs31.t _ (by omega)) ?_
            refine Pv.iload rfl rfl ?_
            refine Pv.icmp rfl (fun c42 => ?_) (fun c42 => ?_)
            · skip
              replace c42 := of_decide_eq_true c42
              refine Pv.iinc (y := Int32.ofNat (k + 1)) (lo' := [some (.ref 69), some (.int (Int32.ofNat m)), some (.int (h_t S m)), some (.int w), some (.int (Int32.ofNat (k + 1)))]) rfl rfl (i_add k 1) rfl ?_
              refine Pv.goto rfl ?_
              exact ih13 (k + 1, w, G29) (⟨by omega, rt32, (show XS G29 (t_m T) (m_days T S (k + 1)) from hs31), by rw [hw, hb, m_fst_n hb (by rw [← Bool.not_eq_true]; exact fun q => absurd ((cross_iff (k := k) hml hI hb (by omega)).mpr q) (Int32.not_lt.mpr c42))]⟩)
            · skip
              replace c42 := of_decide_eq_false c42
              refine Pv.aload rfl rfl ?_
              refine Pv.getR (v := .ref 71) rfl rfl (GW.at (a := 69) (k := 6) (b := 71) hx34 (by decide)) ?_
              refine Pv.lit rfl ?_
              refine Pv.ald (z := Int32.ofNat (h_d (m_days T (m_days T S k) 1))) rfl (hs31.d) ?_
              refine Pv.lit rfl ?_
              refine Pv.bin (z := Int32.ofNat (h_d (m_days T S k))) rfl ((i_subN (a := h_d (m_days T (m_days T S k) 1)) (b := 1) (by omega)).trans (congrArg Int32.ofNat (by omega))) ?_
              refine Pv.istore (lo' := [some (.ref 69), some (.int (Int32.ofNat m)), some (.int (h_t S m)), some (.int (Int32.ofNat (h_d (m_days T S k)))), some (.int (Int32.ofNat k))]) rfl rfl ?_
              refine Pv.iinc (y := Int32.ofNat (k + 1)) (lo' := [some (.ref 69), some (.int (Int32.ofNat m)), some (.int (h_t S m)), some (.int (Int32.ofNat (h_d (m_days T S k)))), some (.int (Int32.ofNat (k + 1)))]) rfl rfl (i_add k 1) rfl ?_
              refine Pv.goto rfl ?_
              exact ih13 (k + 1, Int32.ofNat (h_d (m_days T S k)), G29) (⟨by omega, rt32, (show XS G29 (t_m T) (m_days T S (k + 1)) from hs31), by rw [m_fst_e hb ((cross_iff (k := k) hml hI hb (by omega)).mp (Int32.not_le.mp c42)) (Nat.lt_succ_self k)]; rfl⟩)
    · skip
      replace c2 := of_decide_eq_false c2
      replace c2 := b2n.mp c2
      refine Pv.lit rfl ?_
      exact Pv.ret rfl (by rw [hQ]; exact ⟨by unfold a_crosses; rw [hm]; dsimp only; rw [if_neg (by have q := c2; simp at q; rw [q]; decide)], (RDR.rf).fp (Or.inl rfl)⟩)
set_option maxRecDepth 100000 in
set_option maxHeartbeats 4000000 in
theorem q_comes {F : FW} {T : St} {S : Sh} (hT : XT F T) (hS : XS F (t_m T) S) (hG : GW F) (hTB : TBB T) (hI : INV T S) (x y : Int32) : Pm Z_X11_comes [.ref 69, .int x, .int y] F (fun r F' => r = some (.int (a_comes T S x y)) ∧ RDR F F') := by
  refine Pm.of fun N => ?_
  obtain ⟨Q, hQ⟩ : ∃ Q : Option Value → FW → Prop, Q = (fun r F' => r = some (.int (a_comes T S x y)) ∧ RDR F F') := ⟨_, rfl⟩
  rw [← hQ]
  have b3 := hT.mb
  have b4 := hT.nb
  have b5 := hT.gb
  have b6 := m_from_lt S
  have b7 := hS.db
  have hSB := hI.sb
  refine (show Pv (ab_T (L_X11_comes Z_X11_isPlace Z_X11_tries Z_X11_cell Z_X11_goesOn Z_X11_back)) N 0 [some (.ref 69), some (.int x), some (.int y), none, none, none] [] F Q from ?_)
  refine Pv.aload rfl rfl ?_
  refine Pv.lit rfl ?_
  refine Pv.putI rfl rfl ?_
  refine Pv.aload rfl rfl ?_
  refine Pv.iload rfl rfl ?_
  refine Pv.iload rfl rfl ?_
  refine Pv.callVI (as := [.ref 69, .int x, .int y]) (rest := []) (z := b2i ((nd (t_g T) x).isSome && (nd 2 y).isSome)) rfl rfl rfl (q_isPlace (hT.fx (P := fun q => q = 69) (((FX.rf (P := fun q => q = 69))).fp rfl) (by decide)) (hG.fx (P := fun _ => True) (((FX.rf (P := fun _ => True))).fp trivial)) x y) ?_
  refine Pv.if0 rfl (fun c1 => ?_) (fun c1 => ?_)
  · skip
    replace c1 : decide (b2i ((nd (t_g T) x).isSome && (nd 2 y).isSome) = 0) = false := by simpa using c1
    replace c1 := of_decide_eq_false c1
    replace c1 := b2n.mp c1
    obtain ⟨g, s, hg, hs, hgl, hsl, rfl, rfl⟩ := gs_t c1
    refine Pv.aload rfl rfl ?_
    refine Pv.callV (as := [.ref 69]) (rest := []) rfl rfl rfl (g_tries (hG.fx (P := fun _ => True) (((FX.rf (P := fun _ => True))).fp trivial))) ?_
    rintro _ G2 ⟨rfl, x3, y4⟩
    have rt5 := RT.of ((RDR.rf).fp (Or.inl rfl)) x3 y4
    have hs6 := RT.ofS ((RDR.rf).fp (Or.inl rfl)) x3 b3 hS
    have hx7 := RT.T rt5 hT
    have hx8 := RT.G rt5 hG
    refine (show Pv _ _ 20 [some (.ref 69), some (.int (Int32.ofNat g)), some (.int (Int32.ofNat s)), none, none, none] [] G2 Q from ?_)
    refine Pv.aload rfl rfl ?_
    refine Pv.getR (v := .ref 71) rfl rfl (GW.at (a := 69) (k := 6) (b := 71) hx8 (by decide)) ?_
    refine Pv.lit rfl ?_
    refine Pv.iload rfl rfl ?_
    refine Pv.iload rfl rfl ?_
    refine Pv.callI (as := [.int (Int32.ofNat g), .int (Int32.ofNat s)]) (rest := [.int 160, .ref 71]) (z := Int32.ofNat (2 * g + s)) rfl rfl rfl (g_cell (g := g) (s := s)) ?_
    refine Pv.bin (z := Int32.ofNat (160 + (2 * g + s))) rfl (i_add 160 (2 * g + s)) ?_
    refine Pv.ald (z := h_c S (2 * g + s)) rfl (by rw [i_toNat (by omega)]; exact hs6.c _ (by omega)) ?_
    refine Pv.istore (lo' := [some (.ref 69), some (.int (Int32.ofNat g)), some (.int (Int32.ofNat s)), some (.int (h_c S (2 * g + s))), none, none]) rfl rfl ?_
    refine Pv.lit rfl ?_
    refine Pv.istore (lo' := [some (.ref 69), some (.int (Int32.ofNat g)), some (.int (Int32.ofNat s)), some (.int (h_c S (2 * g + s))), some (.int (-1)), none]) rfl rfl ?_
    refine Pv.lit rfl ?_
    refine Pv.istore (lo' := [some (.ref 69), some (.int (Int32.ofNat g)), some (.int (Int32.ofNat s)), some (.int (h_c S (2 * g + s))), some (.int (-1)), some (.int 0)]) rfl rfl ?_
    refine Pv.lp (ι := Nat × Int32 × FW) (lof := fun ⟨k, w, G⟩ => [some (.ref 69), some (.int (Int32.ofNat g)), some (.int (Int32.ofNat s)), some (.int (h_c S (2 * g + s))), some (.int w), some (.int (Int32.ofNat k))]) (Ff := fun ⟨k, w, G⟩ => G) (P := fun ⟨k, w, G⟩ => k ≤ 100 ∧ RT F G ∧ XS G (t_m T) (m_days T S k) ∧ w = aDay T S (m_fst (pComes T S g s) k)) ?_ (0, (-1), G2) (⟨Nat.zero_le _, rt5, hs6, rfl⟩)
    rintro N9 hN10 ⟨k, w, G⟩ hi11 ih12
    refine (show Pv _ _ 41 [some (.ref 69), some (.int (Int32.ofNat g)), some (.int (Int32.ofNat s)), some (.int (h_c S (2 * g + s))), some (.int w), some (.int (Int32.ofNat k))] [] G Q from ?_)
    obtain ⟨hk, rt, hxs, hw⟩ := hi11
    have hx13 := RT.T rt hT
    have hx14 := RT.G rt hG
    have bD15 := XS.db hxs
    refine Pv.iloadS rfl rfl ?_
    refine Pv.lit rfl ?_
    refine Pv.icmp rfl (fun c16 => ?_) (fun c16 => ?_)
    · skip
      replace c16 := (i_le (a := 100) (b := k) (by omega) (by omega)).mp (of_decide_eq_true c16)
      refine Pv.aload rfl rfl ?_
      refine Pv.callV (as := [.ref 69]) (rest := []) rfl rfl rfl (g_back hx14) ?_
      rintro _ G17 ⟨rfl, x18, y19, z20⟩
      have rd21 := RT.bk rt x18 y19 z20
      refine (show Pv _ _ 101 [some (.ref 69), some (.int (Int32.ofNat g)), some (.int (Int32.ofNat s)), some (.int (h_c S (2 * g + s))), some (.int w), some (.int (Int32.ofNat k))] [] G17 Q from ?_)
      refine Pv.iload rfl rfl ?_
      exact Pv.ret rfl (by rw [hQ]; exact ⟨by unfold a_comes; rw [aGS_t hg hs]; rw [hw, show k = 100 by omega], rd21⟩)
    · skip
      replace c16 := mt (i_le (a := 100) (b := k) (by omega) (by omega)).mpr (of_decide_eq_false c16)
      refine Pv.iload rfl rfl ?_
      refine Pv.if0 rfl (fun c22 => ?_) (fun c22 => ?_)
      · skip
        replace c22 := of_decide_eq_true c22
        refine Pv.aload rfl rfl ?_
        refine Pv.callV (as := [.ref 69]) (rest := []) rfl rfl rfl (g_back hx14) ?_
        rintro _ G23 ⟨rfl, x24, y25, z26⟩
        have rd27 := RT.bk rt x24 y25 z26
        refine (show Pv _ _ 101 [some (.ref 69), some (.int (Int32.ofNat g)), some (.int (Int32.ofNat s)), some (.int (h_c S (2 * g + s))), some (.int w), some (.int (Int32.ofNat k))] [] G23 Q from ?_)
        refine Pv.iload rfl rfl ?_
        exact Pv.ret rfl (by rw [hQ]; exact ⟨by unfold a_comes; rw [aGS_t hg hs]; rw [hw, aDay_s (k := k) (n := 100) (by omega) (by rw [← hw]; exact Int32.not_lt.mpr c22)], rd27⟩)
      · skip
        replace c22 := of_decide_eq_false c22
        have hb : m_fst (pComes T S g s) k = none := aDay_n (fun j => (INV_days hTB hT.gb hI j).db) (by rw [← hw]; exact Int32.not_le.mp c22)
        have g1 := hd_1 T (m_days T S k)
        refine Pv.aload rfl rfl ?_
        refine Pv.lit rfl ?_
        refine Pv.callV (as := [.ref 69, .int 1]) (rest := []) rfl rfl rfl (g_goesOn (n := 1) hx13 hxs hx14 hTB (INV.sb (INV_days hTB hT.gb hI k)) (by omega)) ?_
        rintro _ G28 ⟨rfl, x29, hs30⟩
        have rt31 := RT.rx rt x29
        have hx32 := RT.T rt31 hT
        have hx33 := RT.G rt31 hG
        have bD34 := XS.db hs30
        refine (show Pv _ _ 58 [some (.ref 69), some (.int (Int32.ofNat g)), some (.int (Int32.ofNat s)), some (.int (h_c S (2 * g + s))), some (.int w), some (.int (Int32.ofNat k))] [.int (Int32.ofNat (h_d (m_days T (m_days T S k) 1) - h_d (m_days T S k)))] G28 Q from ?_)
        refine Pv.lit rfl ?_
        refine Pv.icmp rfl (fun c35 => ?_) (fun c35 => ?_)
        · skip
          replace c35 : decide (Int32.ofNat (h_d (m_days T (m_days T S k) 1) - h_d (m_days T S k)) = 1) = false := by simpa using c35
          replace c35 := mt (i_eq (a := h_d (m_days T (m_days T S k) 1) - h_d (m_days T S k)) (b := 1) (by omega) (by omega)).mpr (of_decide_eq_false c35)
          refine Pv.aload rfl rfl ?_
          refine Pv.callV (as := [.ref 69]) (rest := []) rfl rfl rfl (g_back hx33) ?_
          rintro _ G36 ⟨rfl, x37, y38, z39⟩
          have rd40 := RT.bk rt31 x37 y38 z39
          refine (show Pv _ _ 101 [some (.ref 69), some (.int (Int32.ofNat g)), some (.int (Int32.ofNat s)), some (.int (h_c S (2 * g + s))), some (.int w), some (.int (Int32.ofNat k))] [] G36 Q from ?_)
          refine Pv.iload rfl rfl ?_
          exact Pv.ret rfl (by rw [hQ]; exact ⟨by unfold a_comes; rw [aGS_t hg hs]; rw [hw, hb, m_fst_z hb (by omega) (fun i hi => by unfold pComes; rw [decide_eq_false (by rw [m_days_400 (by omega) hi]; omega)]; rfl)], rd40⟩)
        · skip
          replace c35 : decide (Int32.ofNat (h_d (m_days T (m_days T S k) 1) - h_d (m_days T S k)) = 1) = true := by simpa using c35
          replace c35 := (i_eq (a := h_d (m_days T (m_days T S k) 1) - h_d (m_days T S k)) (b := 1) (by omega) (by omega)).mp (of_decide_eq_true c35)
          refine Pv.aload rfl rfl ?_
          refine Pv.getR (v := .ref 71) rfl rfl (GW.at (a := 69) (k := 6) (b := 71) hx33 (by decide)) ?_
          refine Pv.lit rfl ?_
          refine Pv.iload rfl rfl ?_
          refine Pv.iload rfl rfl ?_
          refine Pv.callI (as := [.int (Int32.ofNat g), .int (Int32.ofNat s)]) (rest := [.int 160, .ref 71]) (z := Int32.ofNat (2 * g + s)) rfl rfl rfl (g_cell (g := g) (s := s)) ?_
          refine Pv.bin (z := Int32.ofNat (160 + (2 * g + s))) rfl (i_add 160 (2 * g + s)) ?_
          refine Pv.ald (z := h_c (m_days T (m_days T S k) 1) (2 * g + s)) rfl (by rw [i_toNat (by omega)]; exact hs30.c _ (by omega)) ?_
          refine Pv.iload rfl rfl ?_
          refine Pv.icmp rfl (fun c41 => ?_) (fun c41 => ?_)
          · skip
            replace c41 := of_decide_eq_true c41
            refine Pv.iinc (y := Int32.ofNat (k + 1)) (lo' := [some (.ref 69), some (.int (Int32.ofNat g)), some (.int (Int32.ofNat s)), some (.int (h_c S (2 * g + s))), some (.int w), some (.int (Int32.ofNat (k + 1)))]) rfl rfl (i_add k 1) rfl ?_
            refine Pv.goto rfl ?_
            exact ih12 (k + 1, w, G28) (⟨by omega, rt31, (show XS G28 (t_m T) (m_days T S (k + 1)) from hs30), by rw [hw, hb, m_fst_n hb (by rw [← Bool.not_eq_true]; exact fun q => absurd ((comes_iff (k := k) hTB hT.gb hI hgl hsl hb (by omega)).mpr q) (Int32.not_lt.mpr c41))]⟩)
          · skip
            replace c41 := of_decide_eq_false c41
            refine Pv.aload rfl rfl ?_
            refine Pv.getR (v := .ref 71) rfl rfl (GW.at (a := 69) (k := 6) (b := 71) hx33 (by decide)) ?_
            refine Pv.lit rfl ?_
            refine Pv.ald (z := Int32.ofNat (h_d (m_days T (m_days T S k) 1))) rfl (hs30.d) ?_
            refine Pv.lit rfl ?_
            refine Pv.bin (z := Int32.ofNat (h_d (m_days T S k))) rfl ((i_subN (a := h_d (m_days T (m_days T S k) 1)) (b := 1) (by omega)).trans (congrArg Int32.ofNat (by omega))) ?_
            refine Pv.istore (lo' := [some (.ref 69), some (.int (Int32.ofNat g)), some (.int (Int32.ofNat s)), some (.int (h_c S (2 * g + s))), some (.int (Int32.ofNat (h_d (m_days T S k)))), some (.int (Int32.ofNat k))]) rfl rfl ?_
            refine Pv.iinc (y := Int32.ofNat (k + 1)) (lo' := [some (.ref 69), some (.int (Int32.ofNat g)), some (.int (Int32.ofNat s)), some (.int (h_c S (2 * g + s))), some (.int (Int32.ofNat (h_d (m_days T S k)))), some (.int (Int32.ofNat (k + 1)))]) rfl rfl (i_add k 1) rfl ?_
            refine Pv.goto rfl ?_
            exact ih12 (k + 1, Int32.ofNat (h_d (m_days T S k)), G28) (⟨by omega, rt31, (show XS G28 (t_m T) (m_days T S (k + 1)) from hs30), by rw [m_fst_e hb ((comes_iff (k := k) hTB hT.gb hI hgl hsl hb (by omega)).mp (Int32.not_le.mp c41)) (Nat.lt_succ_self k)]; rfl⟩)
  · skip
    replace c1 : decide (b2i ((nd (t_g T) x).isSome && (nd 2 y).isSome) = 0) = true := by simpa using c1
    replace c1 := of_decide_eq_true c1
    replace c1 := b2z.mp c1
    refine Pv.lit rfl ?_
    exact Pv.ret rfl (by rw [hQ]; exact ⟨by unfold a_comes; rw [aGS_f c1], (RDR.rf).fp (Or.inl rfl)⟩)
set_option maxRecDepth 100000 in
set_option maxHeartbeats 4000000 in
theorem q_meet {F : FW} {T : St} {S : Sh} (hT : XT F T) (hS : XS F (t_m T) S) (hG : GW F) (hTB : TBB T) (hI : INV T S) (x y : Int32) : Pm Z_X11_meet [.ref 69, .int x, .int y] F (fun r F' => r = some (.int (a_meet T S x y)) ∧ RDR F F') := by
  refine Pm.of fun N => ?_
  obtain ⟨Q, hQ⟩ : ∃ Q : Option Value → FW → Prop, Q = (fun r F' => r = some (.int (a_meet T S x y)) ∧ RDR F F') := ⟨_, rfl⟩
  rw [← hQ]
  have b3 := hT.mb
  have b4 := hT.nb
  have b5 := hT.gb
  have b6 := m_from_lt S
  have b7 := hS.db
  have hSB := hI.sb
  refine (show Pv (ab_T (L_X11_meet Z_X11_isMan Z_X11_isDead Z_X11_tries Z_X11_areUnlike Z_X11_goesOn Z_X11_back)) N 0 [some (.ref 69), some (.int x), some (.int y), none, none] [] F Q from ?_)
  refine Pv.aload rfl rfl ?_
  refine Pv.lit rfl ?_
  refine Pv.putI rfl rfl ?_
  refine Pv.aload rfl rfl ?_
  refine Pv.iload rfl rfl ?_
  refine Pv.callVI (as := [.ref 69, .int x]) (rest := []) (z := b2i (nd (t_m T) x).isSome) rfl rfl rfl (q_isMan (hT.fx (P := fun q => q = 69) (((FX.rf (P := fun q => q = 69))).fp rfl) (by decide)) (hG.fx (P := fun _ => True) (((FX.rf (P := fun _ => True))).fp trivial)) x) ?_
  refine Pv.if0 rfl (fun c1 => ?_) (fun c1 => ?_)
  · skip
    replace c1 := of_decide_eq_true c1
    replace c1 := b2z.mp c1
    refine Pv.lit rfl ?_
    exact Pv.ret rfl (by rw [hQ]; exact ⟨by unfold a_meet liv2; rw [nd_f c1], (RDR.rf).fp (Or.inl rfl)⟩)
  · skip
    replace c1 := of_decide_eq_false c1
    replace c1 := b2n.mp c1
    obtain ⟨m, hm, hml, rfl⟩ := nd_t c1
    refine Pv.aload rfl rfl ?_
    refine Pv.iload rfl rfl ?_
    refine Pv.callVI (as := [.ref 69, .int y]) (rest := []) (z := b2i (nd (t_m T) y).isSome) rfl rfl rfl (q_isMan (hT.fx (P := fun q => q = 69) (((FX.rf (P := fun q => q = 69))).fp rfl) (by decide)) (hG.fx (P := fun _ => True) (((FX.rf (P := fun _ => True))).fp trivial)) y) ?_
    refine Pv.if0 rfl (fun c2 => ?_) (fun c2 => ?_)
    · skip
      replace c2 := of_decide_eq_true c2
      replace c2 := b2z.mp c2
      refine Pv.lit rfl ?_
      exact Pv.ret rfl (by rw [hQ]; exact ⟨by unfold a_meet liv2; rw [hm]; dsimp only; rw [nd_f c2], (RDR.rf).fp (Or.inl rfl)⟩)
    · skip
      replace c2 := of_decide_eq_false c2
      replace c2 := b2n.mp c2
      obtain ⟨o, ho, hol, rfl⟩ := nd_t c2
      refine Pv.iload rfl rfl ?_
      refine Pv.iload rfl rfl ?_
      refine Pv.icmp rfl (fun c3 => ?_) (fun c3 => ?_)
      · skip
        replace c3 := (i_eq (a := m) (b := o) (by omega) (by omega)).mp (of_decide_eq_true c3)
        refine Pv.lit rfl ?_
        exact Pv.ret rfl (by rw [hQ]; exact ⟨by unfold a_meet liv2; rw [hm]; dsimp only; rw [ho]; dsimp only; rw [if_neg (fun q => q.1 c3)], (RDR.rf).fp (Or.inl rfl)⟩)
      · skip
        replace c3 := mt (i_eq (a := m) (b := o) (by omega) (by omega)).mpr (of_decide_eq_false c3)
        refine Pv.aload rfl rfl ?_
        refine Pv.iload rfl rfl ?_
        refine Pv.callVI (as := [.ref 69, .int (Int32.ofNat m)]) (rest := []) (z := b2i (!m_alive S m)) rfl rfl rfl (g_isDead (o := 0) (m := m) (hS.xd.fx (P := fun q => q = 69) (((FX.rf (P := fun q => q = 69))).fp rfl) (by decide)) (hG.fx (P := fun _ => True) (((FX.rf (P := fun _ => True))).fp trivial)) (by omega)) ?_
        refine Pv.if0 rfl (fun c4 => ?_) (fun c4 => ?_)
        · skip
          replace c4 : decide (b2i (!m_alive S m) = 0) = false := by simpa using c4
          replace c4 := of_decide_eq_false c4
          replace c4 := b2n.mp c4
          refine Pv.lit rfl ?_
          exact Pv.ret rfl (by rw [hQ]; exact ⟨by unfold a_meet liv2; rw [hm]; dsimp only; rw [ho]; dsimp only; rw [if_neg (fun q => by have z := c4; rw [q.2.1] at z; cases z)], (RDR.rf).fp (Or.inl rfl)⟩)
        · skip
          replace c4 : decide (b2i (!m_alive S m) = 0) = true := by simpa using c4
          replace c4 := of_decide_eq_true c4
          replace c4 := b2z.mp c4
          refine Pv.aload rfl rfl ?_
          refine Pv.iload rfl rfl ?_
          refine Pv.callVI (as := [.ref 69, .int (Int32.ofNat o)]) (rest := []) (z := b2i (!m_alive S o)) rfl rfl rfl (g_isDead (o := 0) (m := o) (hS.xd.fx (P := fun q => q = 69) (((FX.rf (P := fun q => q = 69))).fp rfl) (by decide)) (hG.fx (P := fun _ => True) (((FX.rf (P := fun _ => True))).fp trivial)) (by omega)) ?_
          refine Pv.if0 rfl (fun c5 => ?_) (fun c5 => ?_)
          · skip
            replace c5 := of_decide_eq_true c5
            replace c5 := b2z.mp c5
            have a1 : m_alive S m = true := by simpa using c4
            have a2 : m_alive S o = true := by simpa using c5
            refine Pv.aload rfl rfl ?_
            refine Pv.callV (as := [.ref 69]) (rest := []) rfl rfl rfl (g_tries (hG.fx (P := fun _ => True) (((FX.rf (P := fun _ => True))).fp trivial))) ?_
            rintro _ G6 ⟨rfl, x7, y8⟩
            have rt9 := RT.of ((RDR.rf).fp (Or.inl rfl)) x7 y8
            have hs10 := RT.ofS ((RDR.rf).fp (Or.inl rfl)) x7 b3 hS
            have hx11 := RT.T rt9 hT
            have hx12 := RT.G rt9 hG
            refine (show Pv _ _ 48 [some (.ref 69), some (.int (Int32.ofNat m)), some (.int (Int32.ofNat o)), none, none] [] G6 Q from ?_)
            refine Pv.lit rfl ?_
            refine Pv.istore (lo' := [some (.ref 69), some (.int (Int32.ofNat m)), some (.int (Int32.ofNat o)), some (.int 0), none]) rfl rfl ?_
            refine Pv.lit rfl ?_
            refine Pv.istore (lo' := [some (.ref 69), some (.int (Int32.ofNat m)), some (.int (Int32.ofNat o)), some (.int 0), some (.int 1)]) rfl rfl ?_
            refine Pv.lp (ι := Nat × Int32 × FW) (lof := fun ⟨k, b, G⟩ => [some (.ref 69), some (.int (Int32.ofNat m)), some (.int (Int32.ofNat o)), some (.int (Int32.ofNat k)), some (.int b)]) (Ff := fun ⟨k, b, G⟩ => G) (P := fun ⟨k, b, G⟩ => RT F G ∧ (b = 0 → m_fst (pMeet T S m o) 101 = none) ∧ (¬ b = 0 → k ≤ 100 ∧ XS G (t_m T) (m_days T S k) ∧ m_fst (pMeet T S m o) k = none)) ?_ (0, 1, G6) (⟨rt9, fun q => absurd q (by decide), fun _ => ⟨Nat.zero_le _, hs10, rfl⟩⟩)
            rintro N13 hN14 ⟨k, b, G⟩ hi15 ih16
            refine (show Pv _ _ 53 [some (.ref 69), some (.int (Int32.ofNat m)), some (.int (Int32.ofNat o)), some (.int (Int32.ofNat k)), some (.int b)] [] G Q from ?_)
            obtain ⟨rt, h0, h1⟩ := hi15
            have hx17 := RT.T rt hT
            have hx18 := RT.G rt hG
            refine Pv.iloadS rfl rfl ?_
            refine Pv.if0 rfl (fun c19 => ?_) (fun c19 => ?_)
            · skip
              replace c19 := of_decide_eq_true c19
              refine Pv.aload rfl rfl ?_
              refine Pv.callV (as := [.ref 69]) (rest := []) rfl rfl rfl (g_back hx18) ?_
              rintro _ G20 ⟨rfl, x21, y22, z23⟩
              have rd24 := RT.bk rt x21 y22 z23
              refine (show Pv _ _ 99 [some (.ref 69), some (.int (Int32.ofNat m)), some (.int (Int32.ofNat o)), some (.int (Int32.ofNat k)), some (.int b)] [] G20 Q from ?_)
              refine Pv.iload rfl rfl ?_
              refine Pv.if0 rfl (fun c25 => ?_) (fun c25 => ?_)
              · skip
                replace c25 := of_decide_eq_true c25
                refine Pv.lit rfl ?_
                exact Pv.ret rfl (by rw [hQ]; exact ⟨by unfold a_meet liv2; rw [hm]; dsimp only; rw [ho]; dsimp only; rw [if_pos ⟨c3, a1, a2⟩]; dsimp only; rw [h0 c19], rd24⟩)
              · skip
                replace c25 := of_decide_eq_false c25
                exact absurd c19 c25
            · skip
              replace c19 := of_decide_eq_false c19
              obtain ⟨hk, hxs, hb⟩ := h1 c19
              have hx26 := RT.T rt hT
              have hx27 := RT.G rt hG
              have bD28 := XS.db hxs
              have g1 := hd_1 T (m_days T S k)
              refine Pv.aload rfl rfl ?_
              refine Pv.iload rfl rfl ?_
              refine Pv.iload rfl rfl ?_
              refine Pv.callVI (as := [.ref 69, .int (Int32.ofNat m), .int (Int32.ofNat o)]) (rest := []) (z := b2i (m_unl (m_days T S k) m o)) rfl rfl rfl (g_areUnlike (m := m) (o := o) hxs.xd hx27 (by omega) (by omega) (by omega)) ?_
              refine Pv.if0 rfl (fun c29 => ?_) (fun c29 => ?_)
              · skip
                replace c29 := of_decide_eq_true c29
                replace c29 := b2z.mp c29
                refine Pv.aload rfl rfl ?_
                refine Pv.callV (as := [.ref 69]) (rest := []) rfl rfl rfl (g_back hx27) ?_
                rintro _ G30 ⟨rfl, x31, y32, z33⟩
                have rd34 := RT.bk rt x31 y32 z33
                refine (show Pv _ _ 99 [some (.ref 69), some (.int (Int32.ofNat m)), some (.int (Int32.ofNat o)), some (.int (Int32.ofNat k)), some (.int b)] [] G30 Q from ?_)
                refine Pv.iload rfl rfl ?_
                refine Pv.if0 rfl (fun c35 => ?_) (fun c35 => ?_)
                · skip
                  replace c35 := of_decide_eq_true c35
                  exact absurd c35 c19
                · skip
                  replace c35 := of_decide_eq_false c35
                  refine Pv.iload rfl rfl ?_
                  refine Pv.goto rfl ?_
                  exact Pv.ret rfl (by rw [hQ]; exact ⟨by unfold a_meet liv2; rw [hm]; dsimp only; rw [ho]; dsimp only; rw [if_pos ⟨c3, a1, a2⟩]; dsimp only; rw [m_fst_e hb (meet_t a1 a2 b3 c29) (by omega)], rd34⟩)
              · skip
                replace c29 := of_decide_eq_false c29
                replace c29 := b2n.mp c29
                have pf : pMeet T S m o k = false := meet_f a1 a2 b3 c29
                refine Pv.iload rfl rfl ?_
                refine Pv.lit rfl ?_
                refine Pv.icmp rfl (fun c36 => ?_) (fun c36 => ?_)
                · skip
                  replace c36 := (i_le (a := 100) (b := k) (by omega) (by omega)).mp (of_decide_eq_true c36)
                  refine Pv.lit rfl ?_
                  refine Pv.istore (lo' := [some (.ref 69), some (.int (Int32.ofNat m)), some (.int (Int32.ofNat o)), some (.int (Int32.ofNat k)), some (.int 0)]) rfl rfl ?_
                  refine Pv.iinc (y := Int32.ofNat (k + 1)) (lo' := [some (.ref 69), some (.int (Int32.ofNat m)), some (.int (Int32.ofNat o)), some (.int (Int32.ofNat (k + 1))), some (.int 0)]) rfl rfl (i_add k 1) rfl ?_
                  refine Pv.goto rfl ?_
                  exact ih16 (k + 1, 0, G) (⟨rt, fun _ => by rw [show 101 = k + 1 by omega]; exact m_fst_n hb pf, fun q => absurd rfl q⟩)
                · skip
                  replace c36 := mt (i_le (a := 100) (b := k) (by omega) (by omega)).mpr (of_decide_eq_false c36)
                  refine Pv.aload rfl rfl ?_
                  refine Pv.lit rfl ?_
                  refine Pv.callV (as := [.ref 69, .int 1]) (rest := []) rfl rfl rfl (g_goesOn (n := 1) hx26 hxs hx27 hTB (INV.sb (INV_days hTB hT.gb hI k)) (by omega)) ?_
                  rintro _ G37 ⟨rfl, x38, hs39⟩
                  have rt40 := RT.rx rt x38
                  have hx41 := RT.T rt40 hT
                  have hx42 := RT.G rt40 hG
                  have bD43 := XS.db hs39
                  refine (show Pv _ _ 78 [some (.ref 69), some (.int (Int32.ofNat m)), some (.int (Int32.ofNat o)), some (.int (Int32.ofNat k)), some (.int b)] [.int (Int32.ofNat (h_d (m_days T (m_days T S k) 1) - h_d (m_days T S k)))] G37 Q from ?_)
                  refine Pv.lit rfl ?_
                  refine Pv.icmp rfl (fun c44 => ?_) (fun c44 => ?_)
                  · skip
                    replace c44 : decide (Int32.ofNat (h_d (m_days T (m_days T S k) 1) - h_d (m_days T S k)) = 1) = false := by simpa using c44
                    replace c44 := mt (i_eq (a := h_d (m_days T (m_days T S k) 1) - h_d (m_days T S k)) (b := 1) (by omega) (by omega)).mpr (of_decide_eq_false c44)
                    refine Pv.lit rfl ?_
                    refine Pv.istore (lo' := [some (.ref 69), some (.int (Int32.ofNat m)), some (.int (Int32.ofNat o)), some (.int (Int32.ofNat k)), some (.int 0)]) rfl rfl ?_
                    refine Pv.iinc (y := Int32.ofNat (k + 1)) (lo' := [some (.ref 69), some (.int (Int32.ofNat m)), some (.int (Int32.ofNat o)), some (.int (Int32.ofNat (k + 1))), some (.int 0)]) rfl rfl (i_add k 1) rfl ?_
                    refine Pv.goto rfl ?_
                    exact ih16 (k + 1, 0, G37) (⟨rt40, fun _ => m_fst_z hb (by omega) (fun i hi => by unfold pMeet; rw [m_days_e (T := T) (S := S) hi (by omega)]; exact pf), fun q => absurd rfl q⟩)
                  · skip
                    replace c44 : decide (Int32.ofNat (h_d (m_days T (m_days T S k) 1) - h_d (m_days T S k)) = 1) = true := by simpa using c44
                    replace c44 := (i_eq (a := h_d (m_days T (m_days T S k) 1) - h_d (m_days T S k)) (b := 1) (by omega) (by omega)).mp (of_decide_eq_true c44)
                    refine Pv.lit rfl ?_
                    refine Pv.goto rfl ?_
                    refine Pv.istore (lo' := [some (.ref 69), some (.int (Int32.ofNat m)), some (.int (Int32.ofNat o)), some (.int (Int32.ofNat k)), some (.int 1)]) rfl rfl ?_
                    refine Pv.iinc (y := Int32.ofNat (k + 1)) (lo' := [some (.ref 69), some (.int (Int32.ofNat m)), some (.int (Int32.ofNat o)), some (.int (Int32.ofNat (k + 1))), some (.int 1)]) rfl rfl (i_add k 1) rfl ?_
                    refine Pv.goto rfl ?_
                    exact ih16 (k + 1, 1, G37) (⟨rt40, fun q => absurd q (by decide), fun _ => ⟨by omega, (show XS G37 (t_m T) (m_days T S (k + 1)) from hs39), m_fst_n hb pf⟩⟩)
          · skip
            replace c5 := of_decide_eq_false c5
            replace c5 := b2n.mp c5
            refine Pv.lit rfl ?_
            exact Pv.ret rfl (by rw [hQ]; exact ⟨by unfold a_meet liv2; rw [hm]; dsimp only; rw [ho]; dsimp only; rw [if_neg (fun q => by have z := c5; rw [q.2.2] at z; cases z)], (RDR.rf).fp (Or.inl rfl)⟩)
set_option maxRecDepth 100000 in
set_option maxHeartbeats 4000000 in
theorem q_goes {F : FW} {T : St} {S : Sh} (hT : XT F T) (hS : XS F (t_m T) S) (hG : GW F) (hTB : TBB T) (hI : INV T S) (x : Int32) : Pm Z_X11_goes [.ref 69, .int x] F (fun r F' => r = some (.int (a_goes T S x)) ∧ RDR F F') := by
  refine Pm.of fun N => ?_
  obtain ⟨Q, hQ⟩ : ∃ Q : Option Value → FW → Prop, Q = (fun r F' => r = some (.int (a_goes T S x)) ∧ RDR F F') := ⟨_, rfl⟩
  rw [← hQ]
  have b3 := hT.mb
  have b4 := hT.nb
  have b5 := hT.gb
  have b6 := m_from_lt S
  have b7 := hS.db
  have hSB := hI.sb
  refine (show Pv (ab_T (L_X11_goes Z_X11_isGood Z_X11_goingSet Z_X11_goesOf)) N 0 [some (.ref 69), some (.int x), none] [] F Q from ?_)
  refine Pv.aload rfl rfl ?_
  refine Pv.lit rfl ?_
  refine Pv.putI rfl rfl ?_
  refine Pv.aload rfl rfl ?_
  refine Pv.iload rfl rfl ?_
  refine Pv.callVI (as := [.ref 69, .int x]) (rest := []) (z := b2i (nd (t_g T) x).isSome) rfl rfl rfl (q_isGood (hT.fx (P := fun q => q = 69) (((FX.rf (P := fun q => q = 69))).fp rfl) (by decide)) (hG.fx (P := fun _ => True) (((FX.rf (P := fun _ => True))).fp trivial)) x) ?_
  refine Pv.if0 rfl (fun c1 => ?_) (fun c1 => ?_)
  · skip
    replace c1 : decide (b2i (nd (t_g T) x).isSome = 0) = false := by simpa using c1
    replace c1 := of_decide_eq_false c1
    replace c1 := b2n.mp c1
    obtain ⟨g, hg, hgl, rfl⟩ := nd_t c1
    refine Pv.aload rfl rfl ?_
    refine Pv.getR (v := .ref 71) rfl rfl (GW.at (a := 69) (k := 6) (b := 71) hG (by decide)) ?_
    refine Pv.lit rfl ?_
    refine Pv.ald (z := Int32.ofNat (h_d S)) rfl ((fp_ne (Or.inl (by decide))).trans (hS.d)) ?_
    refine Pv.lit rfl ?_
    refine Pv.icmp rfl (fun c2 => ?_) (fun c2 => ?_)
    · skip
      replace c2 : decide (Int32.ofNat (h_d S) = 400) = false := by simpa using c2
      replace c2 := mt (i_eq (a := h_d S) (b := 400) (by omega) (by omega)).mpr (of_decide_eq_false c2)
      refine Pv.aload rfl rfl ?_
      refine Pv.callVI (as := [.ref 69]) (rest := []) (z := m_board T S) rfl rfl rfl (g_goingSet  (hT.fx (P := fun q => q = 69) (((FX.rf (P := fun q => q = 69))).fp rfl) (by decide)) (hS.fx (P := fun q => q = 69) b3 (((FX.rf (P := fun q => q = 69))).fp rfl) (by decide)) (hG.fx (P := fun _ => True) (((FX.rf (P := fun _ => True))).fp trivial)) (by omega)) ?_
      refine Pv.pop rfl ?_
      have e0 : t_l T - (m_pm T S (t_m T)).2 = t_l T - m_pg T S 0 := rfl
      rw [e0]
      refine Pv.lit rfl ?_
      refine Pv.istore (lo' := [some (.ref 69), some (.int (Int32.ofNat g)), some (.int 0)]) rfl rfl ?_
      refine Pv.lp (ι := Nat) (lof := fun k => [some (.ref 69), some (.int (Int32.ofNat g)), some (.int (Int32.ofNat k))]) (Ff := fun k => (fp (fp F 69 0 0) 69 22 (t_l T - m_pg T S k))) (P := fun k => k ≤ g) ?_ 0 (Nat.zero_le _)
      rintro N3 hN4 k hi5 ih6
      refine (show Pv _ _ 37 [some (.ref 69), some (.int (Int32.ofNat g)), some (.int (Int32.ofNat k))] [] (fp (fp F 69 0 0) 69 22 (t_l T - m_pg T S k)) Q from ?_)
      have hk := hi5
      refine Pv.iloadS rfl rfl ?_
      refine Pv.iload rfl rfl ?_
      refine Pv.icmp rfl (fun c7 => ?_) (fun c7 => ?_)
      · skip
        replace c7 := (i_le (a := g) (b := k) (by omega) (by omega)).mp (of_decide_eq_true c7)
        refine Pv.aload rfl rfl ?_
        refine Pv.iload rfl rfl ?_
        refine Pv.callVI (as := [.ref 69, .int (Int32.ofNat g)]) (rest := []) (z := m_less (t_l T - m_pg T S k) (m_less (h_s S (2 * g + m_from S)) (m_lackr (t_a T (1 * 12 + (2 * g + (1 - m_from S)))) (h_s S (2 * g + (1 - m_from S)))))) rfl rfl rfl (g_goesOf (g := g) (d := h_d S) (rm := t_l T - m_pg T S k) (x := h_s S (2 * g + m_from S)) (y := h_s S (2 * g + (1 - m_from S))) (w := t_a T (1 * 12 + (2 * g + (1 - m_from S)))) (hG.fx (P := fun _ => True) ((((FX.rf (P := fun _ => True))).fp trivial).fp trivial)) (by omega) (by omega) (fp_eq) ((fp_ne (Or.inl (by decide))).trans ((fp_ne (Or.inl (by decide))).trans (hS.d))) ((fp_ne (Or.inl (by decide))).trans ((fp_ne (Or.inl (by decide))).trans (hS.s _ (by omega)))) ((fp_ne (Or.inl (by decide))).trans ((fp_ne (Or.inl (by decide))).trans (hS.s _ (by omega)))) ((fp_ne (Or.inl (by decide))).trans ((fp_ne (Or.inl (by decide))).trans (hT.wa _ (by omega))))) ?_
        have ez : m_less (t_l T - m_pg T S k) (m_less (h_s S (2 * g + m_from S)) (m_lackr (t_a T (1 * 12 + (2 * g + (1 - m_from S)))) (h_s S (2 * g + (1 - m_from S))))) = m_fr T S g := fr_eq0 hTB hSB (by omega) (by omega) (by omega)
        rw [ez]
        exact Pv.ret rfl (by rw [hQ]; exact ⟨by unfold a_goes; rw [hg], ((RDR.rf).fp (Or.inl rfl)).fp (Or.inr (Or.inl rfl))⟩)
      · skip
        replace c7 := mt (i_le (a := g) (b := k) (by omega) (by omega)).mpr (of_decide_eq_false c7)
        refine Pv.aload rfl rfl ?_
        refine Pv.dup rfl ?_
        refine Pv.getI (z := t_l T - m_pg T S k) rfl rfl (fp_eq) ?_
        refine Pv.aload rfl rfl ?_
        refine Pv.iload rfl rfl ?_
        refine Pv.callVI (as := [.ref 69, .int (Int32.ofNat k)]) (rest := [.int (t_l T - m_pg T S k), .ref 69]) (z := m_less (t_l T - m_pg T S k) (m_less (h_s S (2 * k + m_from S)) (m_lackr (t_a T (1 * 12 + (2 * k + (1 - m_from S)))) (h_s S (2 * k + (1 - m_from S)))))) rfl rfl rfl (g_goesOf (g := k) (d := h_d S) (rm := t_l T - m_pg T S k) (x := h_s S (2 * k + m_from S)) (y := h_s S (2 * k + (1 - m_from S))) (w := t_a T (1 * 12 + (2 * k + (1 - m_from S)))) (hG.fx (P := fun _ => True) ((((FX.rf (P := fun _ => True))).fp trivial).fp trivial)) (by omega) (by omega) (fp_eq) ((fp_ne (Or.inl (by decide))).trans ((fp_ne (Or.inl (by decide))).trans (hS.d))) ((fp_ne (Or.inl (by decide))).trans ((fp_ne (Or.inl (by decide))).trans (hS.s _ (by omega)))) ((fp_ne (Or.inl (by decide))).trans ((fp_ne (Or.inl (by decide))).trans (hS.s _ (by omega)))) ((fp_ne (Or.inl (by decide))).trans ((fp_ne (Or.inl (by decide))).trans (hT.wa _ (by omega))))) ?_
        have ez : m_less (t_l T - m_pg T S k) (m_less (h_s S (2 * k + m_from S)) (m_lackr (t_a T (1 * 12 + (2 * k + (1 - m_from S)))) (h_s S (2 * k + (1 - m_from S))))) = m_fr T S k := fr_eq0 hTB hSB (by omega) (by omega) (by omega)
        rw [ez]
        refine Pv.bin (z := (t_l T - m_pg T S k) - (m_fr T S k)) rfl (rfl) ?_
        refine Pv.putI rfl rfl ?_
        refine Pv.iinc (y := Int32.ofNat (k + 1)) (lo' := [some (.ref 69), some (.int (Int32.ofNat g)), some (.int (Int32.ofNat (k + 1)))]) rfl rfl (i_add k 1) rfl ?_
        refine Pv.goto rfl ?_
        refine Pv.fE (G := fp (fp F 69 0 0) 69 22 (t_l T - m_pg T S (k + 1))) (fp_fp.trans (congrArg (fp (fp F 69 0 0) 69 22) (i_ss _ _ _))) ?_
        exact ih6 (k + 1) (by omega)
    · skip
      replace c2 : decide (Int32.ofNat (h_d S) = 400) = true := by simpa using c2
      replace c2 := (i_eq (a := h_d S) (b := 400) (by omega) (by omega)).mp (of_decide_eq_true c2)
      refine Pv.lit rfl ?_
      exact Pv.ret rfl (by rw [hQ]; exact ⟨by unfold a_goes; rw [hg]; dsimp only; rw [fr_400 hTB hSB (by omega) (by omega)], (RDR.rf).fp (Or.inl rfl)⟩)
  · skip
    replace c1 : decide (b2i (nd (t_g T) x).isSome = 0) = true := by simpa using c1
    replace c1 := of_decide_eq_true c1
    replace c1 := b2z.mp c1
    refine Pv.lit rfl ?_
    exact Pv.ret rfl (by rw [hQ]; exact ⟨by unfold a_goes; rw [nd_f c1], (RDR.rf).fp (Or.inl rfl)⟩)
set_option maxRecDepth 100000 in
set_option maxHeartbeats 4000000 in
theorem q_prices {F : FW} {T : St} {S : Sh} (hT : XT F T) (hS : XS F (t_m T) S) (hG : GW F) (hTB : TBB T) (hI : INV T S) : Pm Z_X11_prices [.ref 69] F (fun r F' => r = some (.int (Int32.ofNat (m_rounds T S))) ∧ RDP F F' ∧ F'.1 69 28 = Int32.ofNat (t_g T) ∧ AR F' 80 12 (m_row T S (m_rounds T S))) := by
  refine Pm.of fun N => ?_
  obtain ⟨Q, hQ⟩ : ∃ Q : Option Value → FW → Prop, Q = (fun r F' => r = some (.int (Int32.ofNat (m_rounds T S))) ∧ RDP F F' ∧ F'.1 69 28 = Int32.ofNat (t_g T) ∧ AR F' 80 12 (m_row T S (m_rounds T S))) := ⟨_, rfl⟩
  rw [← hQ]
  have b3 := hT.mb
  have b4 := hT.nb
  have b5 := hT.gb
  have b6 := m_from_lt S
  have b7 := hS.db
  have hSB := hI.sb
  refine (show Pv (ab_T (L_X11_prices Z_X11_tries Z_X11_goesOn Z_X11_back)) N 0 [some (.ref 69), none, none, none, none] [] F Q from ?_)
  refine Pv.aload rfl rfl ?_
  refine Pv.lit rfl ?_
  refine Pv.putI rfl rfl ?_
  refine Pv.aload rfl rfl ?_
  refine Pv.aload rfl rfl ?_
  refine Pv.getR (v := .ref 71) rfl rfl (GW.at (a := 69) (k := 6) (b := 71) hG (by decide)) ?_
  refine Pv.lit rfl ?_
  refine Pv.ald (z := Int32.ofNat (t_g T)) rfl ((fp_ne (Or.inl (by decide))).trans (hT.g)) ?_
  refine Pv.putI rfl rfl ?_
  refine Pv.lit rfl ?_
  refine Pv.istore (lo' := [some (.ref 69), some (.int 0), none, none, none]) rfl rfl ?_
  refine Pv.lp (ι := Nat × FW) (lof := fun ⟨k, G⟩ => [some (.ref 69), some (.int (Int32.ofNat k)), none, none, none]) (Ff := fun ⟨k, G⟩ => G) (P := fun ⟨k, G⟩ => (k ≤ 12) ∧ (RDP F G) ∧ (G.1 69 28 = Int32.ofNat (t_g T)) ∧ (AR G 80 k (fun _ => 5))) ?_ (0, (fp (fp F 69 0 0) 69 28 (Int32.ofNat (t_g T)))) (⟨Nat.zero_le _, (RDP.fp (RDP.fp RDP.rf (Or.inl rfl)) (Or.inr (Or.inr rfl))), fp_eq, AR.z⟩)
  rintro N1 hN2 ⟨k, G⟩ hi3 ih4
  refine (show Pv _ _ 17 [some (.ref 69), some (.int (Int32.ofNat k)), none, none, none] [] G Q from ?_)
  obtain ⟨hk, rt, h28, h80⟩ := hi3
  have hx5 := RDP.T rt hT
  have hx6 := RDP.G rt hG
  have bD7 := XS.db (RDP.S rt b3 hS)
  refine Pv.iloadS rfl rfl ?_
  refine Pv.lit rfl ?_
  refine Pv.icmp rfl (fun c8 => ?_) (fun c8 => ?_)
  · skip
    replace c8 := (i_le (a := 12) (b := k) (by omega) (by omega)).mp (of_decide_eq_true c8)
    refine Pv.aload rfl rfl ?_
    refine Pv.callV (as := [.ref 69]) (rest := []) rfl rfl rfl (g_tries hx6) ?_
    rintro _ G9 ⟨rfl, x10, y11⟩
    have rt12 := RTP.of rt x10 y11
    have hs13 := RTP.ofS rt x10 b3 hS
    have hv14 : G9.1 69 28 = Int32.ofNat (t_g T) := (x10.1 69 28 (by decide)).trans h28
    have hA15 : AR G9 80 12 (fun _ => 5) := AR.fx (h80.le (by omega)) x10 (by decide)
    have hx16 := RTP.T rt12 hT
    have hx17 := RTP.G rt12 hG
    have bD18 := XS.db hs13
    refine (show Pv _ _ 40 [some (.ref 69), some (.int (Int32.ofNat k)), none, none, none] [] G9 Q from ?_)
    refine Pv.lit rfl ?_
    refine Pv.istore (lo' := [some (.ref 69), some (.int 0), none, none, none]) rfl rfl ?_
    refine Pv.lit rfl ?_
    refine Pv.istore (lo' := [some (.ref 69), some (.int 0), some (.int 1), none, none]) rfl rfl ?_
    refine Pv.lp (ι := Nat × Int32 × FW × (Option Value) × (Option Value)) (lof := fun ⟨r, b, G2, o19, o20⟩ => [some (.ref 69), some (.int (Int32.ofNat r)), some (.int b), o19, o20]) (Ff := fun ⟨r, b, G2, o19, o20⟩ => G2) (P := fun ⟨r, b, G2, o19, o20⟩ => (r ≤ 60) ∧ (RTP F G2) ∧ (XS G2 (t_m T) (m_days T S r)) ∧ (G2.1 69 28 = Int32.ofNat (t_g T)) ∧ (AR G2 80 12 (m_row T S r)) ∧ (¬ b = 0 → m_fst (pRest T S) r = none) ∧ (b = 0 → m_rounds T S = r)) ?_ (0, 1, G9, none, none) (⟨Nat.zero_le _, rt12, hs13, hv14, hA15, fun _ => rfl, fun q => absurd q (by decide)⟩)
    rintro N21 hN22 ⟨r, b, G2, o19, o20⟩ hi23 ih24
    refine (show Pv _ _ 44 [some (.ref 69), some (.int (Int32.ofNat r)), some (.int b), o19, o20] [] G2 Q from ?_)
    obtain ⟨hk, rt, hxs, h28, h80, hn, hz⟩ := hi23
    have hx25 := RTP.T rt hT
    have hx26 := RTP.G rt hG
    have bD27 := XS.db hxs
    refine Pv.iloadS rfl rfl ?_
    refine Pv.if0 rfl (fun c28 => ?_) (fun c28 => ?_)
    · skip
      replace c28 := of_decide_eq_true c28
      refine Pv.aload rfl rfl ?_
      refine Pv.callV (as := [.ref 69]) (rest := []) rfl rfl rfl (g_back hx26) ?_
      rintro _ G29 ⟨rfl, x30, y31, z32⟩
      have rd33 := RTP.bk rt x30 y31 z32
      have hv34 : G29.1 69 28 = Int32.ofNat (t_g T) := (x30.1 69 28 (by decide)).trans h28
      have hA35 := AR.fx h80 x30 (by decide)
      refine (show Pv _ _ 191 [some (.ref 69), some (.int (Int32.ofNat r)), some (.int b), o19, o20] [] G29 Q from ?_)
      refine Pv.iload rfl rfl ?_
      exact Pv.ret rfl (by rw [hQ]; exact ⟨by rw [hz c28], rd33, hv34, (hA35).eq (congrArg (m_row T S) (hz c28).symm)⟩)
    · skip
      replace c28 := of_decide_eq_false c28
      refine Pv.iload rfl rfl ?_
      refine Pv.lit rfl ?_
      refine Pv.icmp rfl (fun c36 => ?_) (fun c36 => ?_)
      · skip
        replace c36 := (i_le (a := 60) (b := r) (by omega) (by omega)).mp (of_decide_eq_true c36)
        refine Pv.aload rfl rfl ?_
        refine Pv.callV (as := [.ref 69]) (rest := []) rfl rfl rfl (g_back hx26) ?_
        rintro _ G37 ⟨rfl, x38, y39, z40⟩
        have rd41 := RTP.bk rt x38 y39 z40
        have hv42 : G37.1 69 28 = Int32.ofNat (t_g T) := (x38.1 69 28 (by decide)).trans h28
        have hA43 := AR.fx h80 x38 (by decide)
        refine (show Pv _ _ 191 [some (.ref 69), some (.int (Int32.ofNat r)), some (.int b), o19, o20] [] G37 Q from ?_)
        refine Pv.iload rfl rfl ?_
        exact Pv.ret rfl (by rw [hQ]; exact ⟨by rw [rounds_60 (m_fst_59 (show 60 = r by omega) (hn c28)), show 60 = r by omega], rd41, hv42, (hA43).eq (congrArg (m_row T S) (by rw [rounds_60 (m_fst_59 (show 60 = r by omega) (hn c28))]; omega))⟩)
      · skip
        replace c36 := mt (i_le (a := 60) (b := r) (by omega) (by omega)).mpr (of_decide_eq_false c36)
        have hf := hn c28
        refine Pv.iinc (y := Int32.ofNat (r + 1)) (lo' := [some (.ref 69), some (.int (Int32.ofNat (r + 1))), some (.int b), o19, o20]) rfl rfl (i_add r 1) rfl ?_
        refine Pv.lit rfl ?_
        refine Pv.istore (lo' := [some (.ref 69), some (.int (Int32.ofNat (r + 1))), some (.int 0), o19, o20]) rfl rfl ?_
        refine Pv.lit rfl ?_
        refine Pv.istore (lo' := [some (.ref 69), some (.int (Int32.ofNat (r + 1))), some (.int 0), some (.int 0), o20]) rfl rfl ?_
        refine Pv.lp (ι := Nat × Int32 × FW × (Option Value)) (lof := fun ⟨k, b, G3, o44⟩ => [some (.ref 69), some (.int (Int32.ofNat (r + 1))), some (.int b), some (.int (Int32.ofNat k)), o44]) (Ff := fun ⟨k, b, G3, o44⟩ => G3) (P := fun ⟨k, b, G3, o44⟩ => (k ≤ 2 * t_g T) ∧ (RTP F G3) ∧ (XS G3 (t_m T) (m_days T S r)) ∧ (G3.1 69 28 = Int32.ofNat (t_g T)) ∧ (AR G3 80 12 (m_pI T (m_days T S r) (m_row T S r) k)) ∧ (b = b2i (m_pM T (m_days T S r) (m_row T S r) k))) ?_ (0, 0, G2, o20) (⟨Nat.zero_le _, rt, hxs, h28, h80, rfl⟩)
        rintro N45 hN46 ⟨k, b, G3, o44⟩ hi47 ih48
        refine (show Pv _ _ 61 [some (.ref 69), some (.int (Int32.ofNat (r + 1))), some (.int b), some (.int (Int32.ofNat k)), o44] [] G3 Q from ?_)
        obtain ⟨hk, rt, hxs, h28, h80, hm⟩ := hi47
        have hx49 := RTP.T rt hT
        have hx50 := RTP.G rt hG
        have bD51 := XS.db hxs
        refine Pv.iloadS rfl rfl ?_
        refine Pv.lit rfl ?_
        refine Pv.aload rfl rfl ?_
        refine Pv.getR (v := .ref 71) rfl rfl (GW.at (a := 69) (k := 6) (b := 71) hx50 (by decide)) ?_
        refine Pv.lit rfl ?_
        refine Pv.ald (z := Int32.ofNat (t_g T)) rfl (hx49.g) ?_
        refine Pv.bin (z := Int32.ofNat (2 * (t_g T))) rfl (i_mul 2 (t_g T)) ?_
        refine Pv.icmp rfl (fun c52 => ?_) (fun c52 => ?_)
        · skip
          replace c52 := (i_le (a := 2 * (t_g T)) (b := k) (by omega) (by omega)).mp (of_decide_eq_true c52)
          refine Pv.aload rfl rfl ?_
          refine Pv.lit rfl ?_
          refine Pv.callV (as := [.ref 69, .int 1]) (rest := []) rfl rfl rfl (g_goesOn (n := 1) hx49 hxs hx50 hTB (INV.sb (INV_days hTB hT.gb hI r)) (by omega)) ?_
          rintro _ G53 ⟨rfl, x54, hs55⟩
          have rt56 := RTP.rx rt x54
          have hv57 : G53.1 69 28 = Int32.ofNat (t_g T) := (x54.2.1 28 (by decide)).trans h28
          have hA58 := AR.fx h80 x54.1 (by decide)
          have hx59 := RTP.T rt56 hT
          have hx60 := RTP.G rt56 hG
          have bD61 := XS.db hs55
          refine (show Pv _ _ 183 [some (.ref 69), some (.int (Int32.ofNat (r + 1))), some (.int b), some (.int (Int32.ofNat k)), o44] [.int (Int32.ofNat (h_d (m_days T (m_days T S r) 1) - h_d (m_days T S r)))] G53 Q from ?_)
          refine Pv.pop rfl ?_
          refine Pv.goto rfl ?_
          exact (ih24 (r + 1, b, G53, (some (.int (Int32.ofNat k))), o44) (⟨by omega, rt56, (show XS G53 (t_m T) (m_days T S (r + 1)) from hs55), hv57, (show AR G53 80 12 (m_row T S (r + 1)) from hA58.eq (congrArg (m_pI T (m_days T S r) (m_row T S r)) (by omega))), fun q => m_fst_n hf (by unfold pRest; rw [show 2 * t_g T = k by omega, ← Bool.not_eq_true, Bool.not_eq_true']; exact fun z => q (by rw [hm, z]; rfl)), fun q => rounds_z hf (by unfold pRest; rw [show 2 * t_g T = k by omega, b2z.mp (hm.symm.trans q)]; rfl) (by omega)⟩)).mono (by omega)
        · skip
          replace c52 := mt (i_le (a := 2 * (t_g T)) (b := k) (by omega) (by omega)).mpr (of_decide_eq_false c52)
          refine Pv.aload rfl rfl ?_
          refine Pv.getR (v := .ref 80) rfl rfl (GW.at (a := 69) (k := 27) (b := 80) hx50 (by decide)) ?_
          refine Pv.iload rfl rfl ?_
          refine Pv.ald (z := (m_pI T (m_days T S r) (m_row T S r) k) k) rfl (by rw [i_toNat (by omega)]; exact h80 _ (by omega)) ?_
          refine Pv.istore (lo' := [some (.ref 69), some (.int (Int32.ofNat (r + 1))), some (.int b), some (.int (Int32.ofNat k)), some (.int ((m_pI T (m_days T S r) (m_row T S r) k) k))]) rfl rfl ?_
          refine Pv.aload rfl rfl ?_
          refine Pv.getR (v := .ref 71) rfl rfl (GW.at (a := 69) (k := 6) (b := 71) hx50 (by decide)) ?_
          refine Pv.lit rfl ?_
          refine Pv.iload rfl rfl ?_
          refine Pv.bin (z := Int32.ofNat (124 + k)) rfl (i_add 124 k) ?_
          refine Pv.ald (z := h_s (m_days T S r) k) rfl (by rw [i_toNat (by omega)]; exact hxs.s _ (by omega)) ?_
          refine Pv.aload rfl rfl ?_
          refine Pv.getR (v := .ref 71) rfl rfl (GW.at (a := 69) (k := 6) (b := 71) hx50 (by decide)) ?_
          refine Pv.lit rfl ?_
          refine Pv.iload rfl rfl ?_
          refine Pv.bin (z := Int32.ofNat (16 + k)) rfl (i_add 16 k) ?_
          refine Pv.ald (z := t_a T (1 * 12 + k)) rfl (by rw [i_toNat (by omega)]; exact hx49.wa _ (by omega)) ?_
          refine Pv.icmp rfl (fun c62 => ?_) (fun c62 => ?_)
          · skip
            replace c62 := of_decide_eq_true c62
            refine Pv.aload rfl rfl ?_
            refine Pv.getR (v := .ref 71) rfl rfl (GW.at (a := 69) (k := 6) (b := 71) hx50 (by decide)) ?_
            refine Pv.lit rfl ?_
            refine Pv.iload rfl rfl ?_
            refine Pv.bin (z := Int32.ofNat (124 + k)) rfl (i_add 124 k) ?_
            refine Pv.ald (z := h_s (m_days T S r) k) rfl (by rw [i_toNat (by omega)]; exact hxs.s _ (by omega)) ?_
            refine Pv.aload rfl rfl ?_
            refine Pv.getR (v := .ref 71) rfl rfl (GW.at (a := 69) (k := 6) (b := 71) hx50 (by decide)) ?_
            refine Pv.lit rfl ?_
            refine Pv.iload rfl rfl ?_
            refine Pv.bin (z := Int32.ofNat (16 + k)) rfl (i_add 16 k) ?_
            refine Pv.ald (z := t_a T (1 * 12 + k)) rfl (by rw [i_toNat (by omega)]; exact hx49.wa _ (by omega)) ?_
            refine Pv.icmp rfl (fun c63 => ?_) (fun c63 => ?_)
            · skip
              replace c63 := of_decide_eq_true c63
              refine Pv.iload rfl rfl ?_
              refine Pv.if0 rfl (fun c64 => ?_) (fun c64 => ?_)
              · skip
                replace c64 : decide (b = 0) = false := by simpa using c64
                replace c64 := of_decide_eq_false c64
                refine Pv.lit rfl ?_
                refine Pv.goto rfl ?_
                refine Pv.istore (lo' := [some (.ref 69), some (.int (Int32.ofNat (r + 1))), some (.int 1), some (.int (Int32.ofNat k)), some (.int ((m_pI T (m_days T S r) (m_row T S r) k) k))]) rfl rfl ?_
                refine Pv.iinc (y := Int32.ofNat (k + 1)) (lo' := [some (.ref 69), some (.int (Int32.ofNat (r + 1))), some (.int 1), some (.int (Int32.ofNat (k + 1))), some (.int ((m_pI T (m_days T S r) (m_row T S r) k) k))]) rfl rfl (i_add k 1) rfl ?_
                refine Pv.goto rfl ?_
                exact ih48 (k + 1, 1, G3, (some (.int ((m_pI T (m_days T S r) (m_row T S r) k) k)))) (⟨by omega, rt, hxs, h28, (h80).eq ((if_neg (Int32.not_lt.mpr c62)).trans (if_neg (fun q => Int32.not_le.mpr q.1 c63))).symm, (congrArg b2i (show m_pM T (m_days T S r) (m_row T S r) (k + 1) = true from by show m_pM T (m_days T S r) (m_row T S r) (k + 1) = _; show (m_pM T (m_days T S r) (m_row T S r) k || (decide (h_s (m_days T S r) k < t_a T (1 * 12 + k)) || (decide (t_a T (1 * 12 + k) < h_s (m_days T S r) k) && decide (0 < m_pI T (m_days T S r) (m_row T S r) k k)))) = _; rw [decide_eq_false (Int32.not_lt.mpr c62), decide_eq_false (Int32.not_lt.mpr c63), Bool.false_and, Bool.or_false, Bool.or_false]; exact b2n.mp (fun z => c64 (hm.trans z)))).symm⟩)
              · skip
                replace c64 : decide (b = 0) = true := by simpa using c64
                replace c64 := of_decide_eq_true c64
                refine Pv.aload rfl rfl ?_
                refine Pv.getR (v := .ref 80) rfl rfl (GW.at (a := 69) (k := 27) (b := 80) hx50 (by decide)) ?_
                refine Pv.iload rfl rfl ?_
                refine Pv.ald (z := (m_pI T (m_days T S r) (m_row T S r) k) k) rfl (by rw [i_toNat (by omega)]; exact h80 _ (by omega)) ?_
                refine Pv.iload rfl rfl ?_
                refine Pv.icmp rfl (fun c65 => ?_) (fun c65 => ?_)
                · skip
                  replace c65 := of_decide_eq_true c65
                  refine Pv.lit rfl ?_
                  refine Pv.istore (lo' := [some (.ref 69), some (.int (Int32.ofNat (r + 1))), some (.int 0), some (.int (Int32.ofNat k)), some (.int ((m_pI T (m_days T S r) (m_row T S r) k) k))]) rfl rfl ?_
                  refine Pv.iinc (y := Int32.ofNat (k + 1)) (lo' := [some (.ref 69), some (.int (Int32.ofNat (r + 1))), some (.int 0), some (.int (Int32.ofNat (k + 1))), some (.int ((m_pI T (m_days T S r) (m_row T S r) k) k))]) rfl rfl (i_add k 1) rfl ?_
                  refine Pv.goto rfl ?_
                  exact ih48 (k + 1, 0, G3, (some (.int ((m_pI T (m_days T S r) (m_row T S r) k) k)))) (⟨by omega, rt, hxs, h28, (h80).eq ((if_neg (Int32.not_lt.mpr c62)).trans (if_neg (fun q => Int32.not_le.mpr q.1 c63))).symm, (congrArg b2i (show m_pM T (m_days T S r) (m_row T S r) (k + 1) = false from by show m_pM T (m_days T S r) (m_row T S r) (k + 1) = _; show (m_pM T (m_days T S r) (m_row T S r) k || (decide (h_s (m_days T S r) k < t_a T (1 * 12 + k)) || (decide (t_a T (1 * 12 + k) < h_s (m_days T S r) k) && decide (0 < m_pI T (m_days T S r) (m_row T S r) k k)))) = _; rw [decide_eq_false (Int32.not_lt.mpr c62), decide_eq_false (Int32.not_lt.mpr c63), Bool.false_and, Bool.or_false, Bool.or_false]; exact b2z.mp (hm.symm.trans c64))).symm⟩)
                · skip
                  replace c65 := of_decide_eq_false c65
                  exact absurd rfl c65
            · skip
              replace c63 := of_decide_eq_false c63
              refine Pv.iload rfl rfl ?_
              refine Pv.if0 rfl (fun c66 => ?_) (fun c66 => ?_)
              · skip
                replace c66 := of_decide_eq_true c66
                refine Pv.iload rfl rfl ?_
                refine Pv.if0 rfl (fun c67 => ?_) (fun c67 => ?_)
                · skip
                  replace c67 : decide (b = 0) = false := by simpa using c67
                  replace c67 := of_decide_eq_false c67
                  refine Pv.lit rfl ?_
                  refine Pv.goto rfl ?_
                  refine Pv.istore (lo' := [some (.ref 69), some (.int (Int32.ofNat (r + 1))), some (.int 1), some (.int (Int32.ofNat k)), some (.int ((m_pI T (m_days T S r) (m_row T S r) k) k))]) rfl rfl ?_
                  refine Pv.iinc (y := Int32.ofNat (k + 1)) (lo' := [some (.ref 69), some (.int (Int32.ofNat (r + 1))), some (.int 1), some (.int (Int32.ofNat (k + 1))), some (.int ((m_pI T (m_days T S r) (m_row T S r) k) k))]) rfl rfl (i_add k 1) rfl ?_
                  refine Pv.goto rfl ?_
                  exact ih48 (k + 1, 1, G3, (some (.int ((m_pI T (m_days T S r) (m_row T S r) k) k)))) (⟨by omega, rt, hxs, h28, (h80).eq ((if_neg (Int32.not_lt.mpr c62)).trans (if_neg (fun q => Int32.not_le.mpr q.2 c66))).symm, (congrArg b2i (show m_pM T (m_days T S r) (m_row T S r) (k + 1) = true from by show m_pM T (m_days T S r) (m_row T S r) (k + 1) = _; show (m_pM T (m_days T S r) (m_row T S r) k || (decide (h_s (m_days T S r) k < t_a T (1 * 12 + k)) || (decide (t_a T (1 * 12 + k) < h_s (m_days T S r) k) && decide (0 < m_pI T (m_days T S r) (m_row T S r) k k)))) = _; rw [decide_eq_false (Int32.not_lt.mpr c62), decide_eq_false (Int32.not_lt.mpr c66), Bool.and_false, Bool.or_false, Bool.or_false]; exact b2n.mp (fun z => c67 (hm.trans z)))).symm⟩)
                · skip
                  replace c67 : decide (b = 0) = true := by simpa using c67
                  replace c67 := of_decide_eq_true c67
                  refine Pv.aload rfl rfl ?_
                  refine Pv.getR (v := .ref 80) rfl rfl (GW.at (a := 69) (k := 27) (b := 80) hx50 (by decide)) ?_
                  refine Pv.iload rfl rfl ?_
                  refine Pv.ald (z := (m_pI T (m_days T S r) (m_row T S r) k) k) rfl (by rw [i_toNat (by omega)]; exact h80 _ (by omega)) ?_
                  refine Pv.iload rfl rfl ?_
                  refine Pv.icmp rfl (fun c68 => ?_) (fun c68 => ?_)
                  · skip
                    replace c68 := of_decide_eq_true c68
                    refine Pv.lit rfl ?_
                    refine Pv.istore (lo' := [some (.ref 69), some (.int (Int32.ofNat (r + 1))), some (.int 0), some (.int (Int32.ofNat k)), some (.int ((m_pI T (m_days T S r) (m_row T S r) k) k))]) rfl rfl ?_
                    refine Pv.iinc (y := Int32.ofNat (k + 1)) (lo' := [some (.ref 69), some (.int (Int32.ofNat (r + 1))), some (.int 0), some (.int (Int32.ofNat (k + 1))), some (.int ((m_pI T (m_days T S r) (m_row T S r) k) k))]) rfl rfl (i_add k 1) rfl ?_
                    refine Pv.goto rfl ?_
                    exact ih48 (k + 1, 0, G3, (some (.int ((m_pI T (m_days T S r) (m_row T S r) k) k)))) (⟨by omega, rt, hxs, h28, (h80).eq ((if_neg (Int32.not_lt.mpr c62)).trans (if_neg (fun q => Int32.not_le.mpr q.2 c66))).symm, (congrArg b2i (show m_pM T (m_days T S r) (m_row T S r) (k + 1) = false from by show m_pM T (m_days T S r) (m_row T S r) (k + 1) = _; show (m_pM T (m_days T S r) (m_row T S r) k || (decide (h_s (m_days T S r) k < t_a T (1 * 12 + k)) || (decide (t_a T (1 * 12 + k) < h_s (m_days T S r) k) && decide (0 < m_pI T (m_days T S r) (m_row T S r) k k)))) = _; rw [decide_eq_false (Int32.not_lt.mpr c62), decide_eq_false (Int32.not_lt.mpr c66), Bool.and_false, Bool.or_false, Bool.or_false]; exact b2z.mp (hm.symm.trans c67))).symm⟩)
                  · skip
                    replace c68 := of_decide_eq_false c68
                    exact absurd rfl c68
              · skip
                replace c66 := of_decide_eq_false c66
                refine Pv.aload rfl rfl ?_
                refine Pv.getR (v := .ref 80) rfl rfl (GW.at (a := 69) (k := 27) (b := 80) hx50 (by decide)) ?_
                refine Pv.iload rfl rfl ?_
                refine Pv.dup2 rfl ?_
                refine Pv.ald (z := (m_pI T (m_days T S r) (m_row T S r) k) k) rfl (by rw [i_toNat (by omega)]; exact h80 _ (by omega)) ?_
                refine Pv.lit rfl ?_
                refine Pv.bin (z := ((m_pI T (m_days T S r) (m_row T S r) k) k) - 1) rfl (rfl) ?_
                refine Pv.astk (k := k) (z := ((m_pI T (m_days T S r) (m_row T S r) k) k) - 1) rfl (i_toNat (by omega)) (rfl) ?_
                refine Pv.iload rfl rfl ?_
                refine Pv.if0 rfl (fun c69 => ?_) (fun c69 => ?_)
                · skip
                  replace c69 : decide (b = 0) = false := by simpa using c69
                  replace c69 := of_decide_eq_false c69
                  refine Pv.lit rfl ?_
                  refine Pv.goto rfl ?_
                  refine Pv.istore (lo' := [some (.ref 69), some (.int (Int32.ofNat (r + 1))), some (.int 1), some (.int (Int32.ofNat k)), some (.int ((m_pI T (m_days T S r) (m_row T S r) k) k))]) rfl rfl ?_
                  refine Pv.iinc (y := Int32.ofNat (k + 1)) (lo' := [some (.ref 69), some (.int (Int32.ofNat (r + 1))), some (.int 1), some (.int (Int32.ofNat (k + 1))), some (.int ((m_pI T (m_days T S r) (m_row T S r) k) k))]) rfl rfl (i_add k 1) rfl ?_
                  refine Pv.goto rfl ?_
                  exact ih48 (k + 1, 1, (fp G3 80 k (((m_pI T (m_days T S r) (m_row T S r) k) k) - 1)), (some (.int ((m_pI T (m_days T S r) (m_row T S r) k) k)))) (⟨by omega, (RTP.pr rt), (XS.up80 hxs b3), (fp_ne (Or.inl (by decide))).trans (h28), ((h80).up).eq ((if_neg (Int32.not_lt.mpr c62)).trans (if_pos ⟨Int32.not_le.mp c63, Int32.not_le.mp c66⟩)).symm, (congrArg b2i (show m_pM T (m_days T S r) (m_row T S r) (k + 1) = true from by show m_pM T (m_days T S r) (m_row T S r) (k + 1) = _; show (m_pM T (m_days T S r) (m_row T S r) k || (decide (h_s (m_days T S r) k < t_a T (1 * 12 + k)) || (decide (t_a T (1 * 12 + k) < h_s (m_days T S r) k) && decide (0 < m_pI T (m_days T S r) (m_row T S r) k k)))) = _; rw [decide_eq_false (Int32.not_lt.mpr c62), decide_eq_true (Int32.not_le.mp c63), decide_eq_true (Int32.not_le.mp c66), Bool.true_and, Bool.or_true, Bool.or_true])).symm⟩)
                · skip
                  replace c69 : decide (b = 0) = true := by simpa using c69
                  replace c69 := of_decide_eq_true c69
                  refine Pv.aload rfl rfl ?_
                  refine Pv.getR (v := .ref 80) rfl rfl (GW.at (a := 69) (k := 27) (b := 80) hx50 (by decide)) ?_
                  refine Pv.iload rfl rfl ?_
                  refine Pv.ald (z := ((m_pI T (m_days T S r) (m_row T S r) k) k) - 1) rfl (by rw [i_toNat (by omega)]; exact fp_eq) ?_
                  refine Pv.iload rfl rfl ?_
                  refine Pv.icmp rfl (fun c70 => ?_) (fun c70 => ?_)
                  · skip
                    replace c70 := of_decide_eq_true c70
                    exact absurd c70 (i_ne2 _)
                  · skip
                    replace c70 := of_decide_eq_false c70
                    refine Pv.lit rfl ?_
                    refine Pv.goto rfl ?_
                    refine Pv.istore (lo' := [some (.ref 69), some (.int (Int32.ofNat (r + 1))), some (.int 1), some (.int (Int32.ofNat k)), some (.int ((m_pI T (m_days T S r) (m_row T S r) k) k))]) rfl rfl ?_
                    refine Pv.iinc (y := Int32.ofNat (k + 1)) (lo' := [some (.ref 69), some (.int (Int32.ofNat (r + 1))), some (.int 1), some (.int (Int32.ofNat (k + 1))), some (.int ((m_pI T (m_days T S r) (m_row T S r) k) k))]) rfl rfl (i_add k 1) rfl ?_
                    refine Pv.goto rfl ?_
                    exact ih48 (k + 1, 1, (fp G3 80 k (((m_pI T (m_days T S r) (m_row T S r) k) k) - 1)), (some (.int ((m_pI T (m_days T S r) (m_row T S r) k) k)))) (⟨by omega, (RTP.pr rt), (XS.up80 hxs b3), (fp_ne (Or.inl (by decide))).trans (h28), ((h80).up).eq ((if_neg (Int32.not_lt.mpr c62)).trans (if_pos ⟨Int32.not_le.mp c63, Int32.not_le.mp c66⟩)).symm, (congrArg b2i (show m_pM T (m_days T S r) (m_row T S r) (k + 1) = true from by show m_pM T (m_days T S r) (m_row T S r) (k + 1) = _; show (m_pM T (m_days T S r) (m_row T S r) k || (decide (h_s (m_days T S r) k < t_a T (1 * 12 + k)) || (decide (t_a T (1 * 12 + k) < h_s (m_days T S r) k) && decide (0 < m_pI T (m_days T S r) (m_row T S r) k k)))) = _; rw [decide_eq_false (Int32.not_lt.mpr c62), decide_eq_true (Int32.not_le.mp c63), decide_eq_true (Int32.not_le.mp c66), Bool.true_and, Bool.or_true, Bool.or_true])).symm⟩)
          · skip
            replace c62 := of_decide_eq_false c62
            refine Pv.aload rfl rfl ?_
            refine Pv.getR (v := .ref 80) rfl rfl (GW.at (a := 69) (k := 27) (b := 80) hx50 (by decide)) ?_
            refine Pv.iload rfl rfl ?_
            refine Pv.dup2 rfl ?_
            refine Pv.ald (z := (m_pI T (m_days T S r) (m_row T S r) k) k) rfl (by rw [i_toNat (by omega)]; exact h80 _ (by omega)) ?_
            refine Pv.lit rfl ?_
            refine Pv.bin (z := ((m_pI T (m_days T S r) (m_row T S r) k) k) + 1) rfl (rfl) ?_
            refine Pv.astk (k := k) (z := ((m_pI T (m_days T S r) (m_row T S r) k) k) + 1) rfl (i_toNat (by omega)) (rfl) ?_
            refine Pv.goto rfl ?_
            refine Pv.iload rfl rfl ?_
            refine Pv.if0 rfl (fun c71 => ?_) (fun c71 => ?_)
            · skip
              replace c71 : decide (b = 0) = false := by simpa using c71
              replace c71 := of_decide_eq_false c71
              refine Pv.lit rfl ?_
              refine Pv.goto rfl ?_
              refine Pv.istore (lo' := [some (.ref 69), some (.int (Int32.ofNat (r + 1))), some (.int 1), some (.int (Int32.ofNat k)), some (.int ((m_pI T (m_days T S r) (m_row T S r) k) k))]) rfl rfl ?_
              refine Pv.iinc (y := Int32.ofNat (k + 1)) (lo' := [some (.ref 69), some (.int (Int32.ofNat (r + 1))), some (.int 1), some (.int (Int32.ofNat (k + 1))), some (.int ((m_pI T (m_days T S r) (m_row T S r) k) k))]) rfl rfl (i_add k 1) rfl ?_
              refine Pv.goto rfl ?_
              exact ih48 (k + 1, 1, (fp G3 80 k (((m_pI T (m_days T S r) (m_row T S r) k) k) + 1)), (some (.int ((m_pI T (m_days T S r) (m_row T S r) k) k)))) (⟨by omega, (RTP.pr rt), (XS.up80 hxs b3), (fp_ne (Or.inl (by decide))).trans (h28), ((h80).up).eq (if_pos (Int32.not_le.mp c62)).symm, (congrArg b2i (show m_pM T (m_days T S r) (m_row T S r) (k + 1) = true from by show m_pM T (m_days T S r) (m_row T S r) (k + 1) = _; show (m_pM T (m_days T S r) (m_row T S r) k || (decide (h_s (m_days T S r) k < t_a T (1 * 12 + k)) || (decide (t_a T (1 * 12 + k) < h_s (m_days T S r) k) && decide (0 < m_pI T (m_days T S r) (m_row T S r) k k)))) = _; rw [decide_eq_true (Int32.not_le.mp c62), Bool.true_or, Bool.or_true])).symm⟩)
            · skip
              replace c71 : decide (b = 0) = true := by simpa using c71
              replace c71 := of_decide_eq_true c71
              refine Pv.aload rfl rfl ?_
              refine Pv.getR (v := .ref 80) rfl rfl (GW.at (a := 69) (k := 27) (b := 80) hx50 (by decide)) ?_
              refine Pv.iload rfl rfl ?_
              refine Pv.ald (z := ((m_pI T (m_days T S r) (m_row T S r) k) k) + 1) rfl (by rw [i_toNat (by omega)]; exact fp_eq) ?_
              refine Pv.iload rfl rfl ?_
              refine Pv.icmp rfl (fun c72 => ?_) (fun c72 => ?_)
              · skip
                replace c72 := of_decide_eq_true c72
                exact absurd c72 (i_ne1 _)
              · skip
                replace c72 := of_decide_eq_false c72
                refine Pv.lit rfl ?_
                refine Pv.goto rfl ?_
                refine Pv.istore (lo' := [some (.ref 69), some (.int (Int32.ofNat (r + 1))), some (.int 1), some (.int (Int32.ofNat k)), some (.int ((m_pI T (m_days T S r) (m_row T S r) k) k))]) rfl rfl ?_
                refine Pv.iinc (y := Int32.ofNat (k + 1)) (lo' := [some (.ref 69), some (.int (Int32.ofNat (r + 1))), some (.int 1), some (.int (Int32.ofNat (k + 1))), some (.int ((m_pI T (m_days T S r) (m_row T S r) k) k))]) rfl rfl (i_add k 1) rfl ?_
                refine Pv.goto rfl ?_
                exact ih48 (k + 1, 1, (fp G3 80 k (((m_pI T (m_days T S r) (m_row T S r) k) k) + 1)), (some (.int ((m_pI T (m_days T S r) (m_row T S r) k) k)))) (⟨by omega, (RTP.pr rt), (XS.up80 hxs b3), (fp_ne (Or.inl (by decide))).trans (h28), ((h80).up).eq (if_pos (Int32.not_le.mp c62)).symm, (congrArg b2i (show m_pM T (m_days T S r) (m_row T S r) (k + 1) = true from by show m_pM T (m_days T S r) (m_row T S r) (k + 1) = _; show (m_pM T (m_days T S r) (m_row T S r) k || (decide (h_s (m_days T S r) k < t_a T (1 * 12 + k)) || (decide (t_a T (1 * 12 + k) < h_s (m_days T S r) k) && decide (0 < m_pI T (m_days T S r) (m_row T S r) k k)))) = _; rw [decide_eq_true (Int32.not_le.mp c62), Bool.true_or, Bool.or_true])).symm⟩)
  · skip
    replace c8 := mt (i_le (a := 12) (b := k) (by omega) (by omega)).mpr (of_decide_eq_false c8)
    refine Pv.aload rfl rfl ?_
    refine Pv.getR (v := .ref 80) rfl rfl (GW.at (a := 69) (k := 27) (b := 80) hx6 (by decide)) ?_
    refine Pv.iload rfl rfl ?_
    refine Pv.lit rfl ?_
    refine Pv.astk (k := k) (z := 5) rfl (i_toNat (by omega)) (rfl) ?_
    refine Pv.iinc (y := Int32.ofNat (k + 1)) (lo' := [some (.ref 69), some (.int (Int32.ofNat (k + 1))), none, none, none]) rfl rfl (i_add k 1) rfl ?_
    refine Pv.goto rfl ?_
    exact ih4 (k + 1, (fp G 80 k 5)) (⟨by omega, (RDP.pr rt), (fp_ne (Or.inl (by decide))).trans (h28), (h80).ext rfl⟩)
set_option maxRecDepth 100000 in
set_option maxHeartbeats 4000000 in
theorem g_whyHoard {F : FW} {m k : Nat} {n : Int32} {S : Sh} (hS : XS F m S) (hG : GW F) (hk : k < 12) : Pm Z_X11_whyHoard [.ref 69, .int (Int32.ofNat k), .int n] F (fun r F' => r = some (.int (m_why 0 S k n)) ∧ F' = F) := by
  refine Pm.of fun N => ?_
  obtain ⟨Q, hQ⟩ : ∃ Q : Option Value → FW → Prop, Q = (fun r F' => r = some (.int (m_why 0 S k n)) ∧ F' = F) := ⟨_, rfl⟩
  rw [← hQ]
  refine (show Pv (ab_T L_X11_whyHoard) N 0 [some (.ref 69), some (.int (Int32.ofNat k)), some (.int n)] [] F Q from ?_)
  refine Pv.aload rfl rfl ?_
  refine Pv.getR (v := .ref 71) rfl rfl (GW.at (a := 69) (k := 6) (b := 71) hG (by decide)) ?_
  refine Pv.lit rfl ?_
  refine Pv.iload rfl rfl ?_
  refine Pv.bin (z := Int32.ofNat (124 + k)) rfl (i_add 124 k) ?_
  refine Pv.ald (z := h_s S k) rfl (by rw [i_toNat (by omega)]; exact hS.s _ (by omega)) ?_
  refine Pv.iload rfl rfl ?_
  refine Pv.icmp rfl (fun c1 => ?_) (fun c1 => ?_)
  · skip
    replace c1 := of_decide_eq_true c1
    refine Pv.lit rfl ?_
    exact Pv.ret rfl (by rw [hQ]; exact ⟨by show _ = some (Value.int (if h_s S k < n then 1 else 0)); rw [if_neg (Int32.not_lt.mpr c1)], rfl⟩)
  · skip
    replace c1 := of_decide_eq_false c1
    refine Pv.lit rfl ?_
    refine Pv.goto rfl ?_
    exact Pv.ret rfl (by rw [hQ]; exact ⟨by show _ = some (Value.int (if h_s S k < n then 1 else 0)); rw [if_pos (Int32.not_le.mp c1)], rfl⟩)
set_option maxRecDepth 100000 in
set_option maxHeartbeats 4000000 in
theorem g_whyBare {F : FW} {m k : Nat} {n : Int32} {S : Sh} (hS : XS F m S) (hG : GW F) (hk : k < 12) : Pm Z_X11_whyBare [.ref 69, .int (Int32.ofNat k), .int n] F (fun r F' => r = some (.int (m_why 1 S k n)) ∧ F' = F) := by
  refine Pm.of fun N => ?_
  obtain ⟨Q, hQ⟩ : ∃ Q : Option Value → FW → Prop, Q = (fun r F' => r = some (.int (m_why 1 S k n)) ∧ F' = F) := ⟨_, rfl⟩
  rw [← hQ]
  refine (show Pv (ab_T L_X11_whyBare) N 0 [some (.ref 69), some (.int (Int32.ofNat k)), some (.int n)] [] F Q from ?_)
  refine Pv.aload rfl rfl ?_
  refine Pv.getR (v := .ref 71) rfl rfl (GW.at (a := 69) (k := 6) (b := 71) hG (by decide)) ?_
  refine Pv.lit rfl ?_
  refine Pv.iload rfl rfl ?_
  refine Pv.bin (z := Int32.ofNat (136 + k)) rfl (i_add 136 k) ?_
  refine Pv.ald (z := h_h S k) rfl (by rw [i_toNat (by omega)]; exact hS.h _ (by omega)) ?_
  refine Pv.iload rfl rfl ?_
  refine Pv.icmp rfl (fun c1 => ?_) (fun c1 => ?_)
  · skip
    replace c1 := of_decide_eq_true c1
    refine Pv.aload rfl rfl ?_
    refine Pv.getR (v := .ref 71) rfl rfl (GW.at (a := 69) (k := 6) (b := 71) hG (by decide)) ?_
    refine Pv.lit rfl ?_
    refine Pv.iload rfl rfl ?_
    refine Pv.bin (z := Int32.ofNat (124 + k)) rfl (i_add 124 k) ?_
    refine Pv.ald (z := h_s S k) rfl (by rw [i_toNat (by omega)]; exact hS.s _ (by omega)) ?_
    refine Pv.iload rfl rfl ?_
    refine Pv.bin (z := (h_s S k) + n) rfl (rfl) ?_
    refine Pv.lit rfl ?_
    refine Pv.icmp rfl (fun c2 => ?_) (fun c2 => ?_)
    · skip
      replace c2 := of_decide_eq_true c2
      refine Pv.lit rfl ?_
      exact Pv.ret rfl (by rw [hQ]; exact ⟨by show _ = some (Value.int (if h_h S k < n then 1 else if 999 < h_s S k + n then 2 else 0)); rw [if_neg (Int32.not_lt.mpr c1), if_neg (Int32.not_lt.mpr c2)], rfl⟩)
    · skip
      replace c2 := of_decide_eq_false c2
      refine Pv.lit rfl ?_
      refine Pv.goto rfl ?_
      exact Pv.ret rfl (by rw [hQ]; exact ⟨by show _ = some (Value.int (if h_h S k < n then 1 else if 999 < h_s S k + n then 2 else 0)); rw [if_neg (Int32.not_lt.mpr c1), if_pos (Int32.not_le.mp c2)], rfl⟩)
  · skip
    replace c1 := of_decide_eq_false c1
    refine Pv.lit rfl ?_
    refine Pv.goto rfl ?_
    exact Pv.ret rfl (by rw [hQ]; exact ⟨by show _ = some (Value.int (if h_h S k < n then 1 else if 999 < h_s S k + n then 2 else 0)); rw [if_pos (Int32.not_le.mp c1)], rfl⟩)
set_option maxRecDepth 100000 in
set_option maxHeartbeats 4000000 in
theorem g_hoards {F : FW} {m k : Nat} {n : Int32} {S : Sh} (hS : XS F m S) (hG : GW F) (hk : k < 12) : Pm Z_X11_hoards [.ref 69, .int (Int32.ofNat k), .int n] F (fun r F' => r = none ∧ F' = fp (fp F 71 (124 + k) (h_s S k - n)) 71 (136 + k) (h_h S k + n)) := by
  refine Pm.of fun N => ?_
  obtain ⟨Q, hQ⟩ : ∃ Q : Option Value → FW → Prop, Q = (fun r F' => r = none ∧ F' = fp (fp F 71 (124 + k) (h_s S k - n)) 71 (136 + k) (h_h S k + n)) := ⟨_, rfl⟩
  rw [← hQ]
  refine (show Pv (ab_T L_X11_hoards) N 0 [some (.ref 69), some (.int (Int32.ofNat k)), some (.int n)] [] F Q from ?_)
  refine Pv.aload rfl rfl ?_
  refine Pv.getR (v := .ref 71) rfl rfl (GW.at (a := 69) (k := 6) (b := 71) hG (by decide)) ?_
  refine Pv.lit rfl ?_
  refine Pv.iload rfl rfl ?_
  refine Pv.bin (z := Int32.ofNat (124 + k)) rfl (i_add 124 k) ?_
  refine Pv.dup2 rfl ?_
  refine Pv.ald (z := h_s S k) rfl (by rw [i_toNat (by omega)]; exact hS.s _ (by omega)) ?_
  refine Pv.iload rfl rfl ?_
  refine Pv.bin (z := (h_s S k) - n) rfl (rfl) ?_
  refine Pv.astk (k := 124 + k) (z := (h_s S k) - n) rfl (i_toNat (by omega)) (rfl) ?_
  refine Pv.aload rfl rfl ?_
  refine Pv.getR (v := .ref 71) rfl rfl (GW.at (a := 69) (k := 6) (b := 71) hG (by decide)) ?_
  refine Pv.lit rfl ?_
  refine Pv.iload rfl rfl ?_
  refine Pv.bin (z := Int32.ofNat (136 + k)) rfl (i_add 136 k) ?_
  refine Pv.dup2 rfl ?_
  refine Pv.ald (z := h_h S k) rfl (by rw [i_toNat (by omega)]; exact (fp_ne (Or.inr (by omega))).trans (hS.h _ (by omega))) ?_
  refine Pv.iload rfl rfl ?_
  refine Pv.bin (z := (h_h S k) + n) rfl (rfl) ?_
  refine Pv.astk (k := 136 + k) (z := (h_h S k) + n) rfl (i_toNat (by omega)) (rfl) ?_
  exact Pv.vret rfl (by rw [hQ]; exact ⟨rfl, rfl⟩)
set_option maxRecDepth 100000 in
set_option maxHeartbeats 4000000 in
theorem g_draw {F : FW} {x : Int32} {n : Nat} (hx : F.1 69 29 = x) (hn : 0 < n) (hn2 : n < 1000) : Pm Z_X11_draw [.ref 69, .int (Int32.ofNat n)] F (fun r F' => r = some (.int (Int32.ofNat (dr (m_nx x) n))) ∧ F' = fp F 69 29 (m_nx x)) := by
  refine Pm.of fun N => ?_
  obtain ⟨Q, hQ⟩ : ∃ Q : Option Value → FW → Prop, Q = (fun r F' => r = some (.int (Int32.ofNat (dr (m_nx x) n))) ∧ F' = fp F 69 29 (m_nx x)) := ⟨_, rfl⟩
  rw [← hQ]
  refine (show Pv (ab_T L_X11_draw) N 0 [some (.ref 69), some (.int (Int32.ofNat n))] [] F Q from ?_)
  refine Pv.aload rfl rfl ?_
  refine Pv.aload rfl rfl ?_
  refine Pv.getI (z := x) rfl rfl (hx) ?_
  refine Pv.lit rfl ?_
  refine Pv.bin (z := x * 1103515245) rfl (rfl) ?_
  refine Pv.lit rfl ?_
  refine Pv.bin (z := m_nx x) rfl (rfl) ?_
  refine Pv.putI rfl rfl ?_
  refine Pv.aload rfl rfl ?_
  refine Pv.getI (z := m_nx x) rfl rfl (fp_eq) ?_
  refine Pv.lit rfl ?_
  refine Pv.bin (z := m_ush (m_nx x)) rfl (rfl) ?_
  refine Pv.iload rfl rfl ?_
  refine Pv.irem (z := Int32.ofNat (dr (m_nx x) n)) rfl (dr_rem hn hn2) ?_
  exact Pv.ret rfl (by rw [hQ]; exact ⟨rfl, rfl⟩)
set_option maxRecDepth 100000 in
set_option maxHeartbeats 4000000 in
theorem g_drawsDay {F : FW} {T : St} {S : Sh} (hT : XT F T) (hS : XS F (t_m T) S) (hG : GW F) (hTB : TBB T) (hI : INV T S) {x : Int32} (hx : F.1 69 29 = x) (hg : 0 < t_g T) (hD : h_d S < 400) : Pm Z_X11_drawsDay [.ref 69] F (fun r F' => r = none ∧ RXS F F' ∧ XS F' (t_m T) (m_d1 T S x) ∧ F'.1 69 29 = m_d2 T S x) := by
  refine Pm.of fun N => ?_
  obtain ⟨Q, hQ⟩ : ∃ Q : Option Value → FW → Prop, Q = (fun r F' => r = none ∧ RXS F F' ∧ XS F' (t_m T) (m_d1 T S x) ∧ F'.1 69 29 = m_d2 T S x) := ⟨_, rfl⟩
  rw [← hQ]
  have b3 := hT.mb
  have b4 := hT.nb
  have b5 := hT.gb
  have b6 := m_from_lt S
  have b7 := hS.db
  have d0 : dr (m_nx x) 6 < 6 := Nat.mod_lt _ (by decide)
  refine (show Pv (ab_T (L_X11_drawsDay Z_X11_draw Z_X11_cell Z_X11_whyHoard Z_X11_hoards Z_X11_whyBare Z_X11_day)) N 0 [some (.ref 69), none, none, none, none] [] F Q from ?_)
  refine Pv.aload rfl rfl ?_
  refine Pv.lit rfl ?_
  refine Pv.callVI (as := [.ref 69, .int 6]) (rest := []) (z := Int32.ofNat (dr (m_nx x) 6)) rfl rfl rfl (g_draw (x := x) (n := 6) (hx) (by omega) (by omega)) ?_
  refine Pv.istore (lo' := [some (.ref 69), some (.int (Int32.ofNat (dr (m_nx x) 6))), none, none, none]) rfl rfl ?_
  have cut1 : ∀ (G : FW), RXS F G → XS G (t_m T) (m_dDs T S x) → G.1 69 29 = m_dDx T S x → ∀ (o1 o2 o3 o4 : Option Value), Pv (ab_T (L_X11_drawsDay Z_X11_draw Z_X11_cell Z_X11_whyHoard Z_X11_hoards Z_X11_whyBare Z_X11_day)) N 116 [some (.ref 69), o1, o2, o3, o4] [] G Q := by
    intro G rx hs hx o1 o2 o3 o4
    have hx2 := RXS.T rx hT
    have hx3 := RXS.G rx hG
    have e0 : h_d (m_dDs T S x) = h_d S := h_d_drawD
    have d4 : dr (m_nx (m_dDx T S x)) 90 < 90 := Nat.mod_lt _ (by decide)
    have cut4 : ∀ (K : FW), RXS F K → XS K (t_m T) (m_dXs T (m_dDs T S x) (m_dDx T S x)) → K.1 69 29 = m_d2 T S x → Pv (ab_T (L_X11_drawsDay Z_X11_draw Z_X11_cell Z_X11_whyHoard Z_X11_hoards Z_X11_whyBare Z_X11_day)) N 157 [some (.ref 69), o1, o2, o3, o4] [] K Q := by
      intro K rx2 hs2 hx2
      have hx5 := RXS.T rx2 hT
      have hx6 := RXS.G rx2 hG
      have e1 : h_d (m_dXs T (m_dDs T S x) (m_dDx T S x)) = h_d S := by rw [h_d_drawX, h_d_drawD]
      refine Pv.aload rfl rfl ?_
      refine Pv.callV (as := [.ref 69]) (rest := []) rfl rfl rfl (g_day hx5 hs2 hx6 hTB (INV.sb (INV_dX (INV_dD hI b5 hg))) (by omega)) ?_
      rintro _ G7 ⟨rfl, x8, hs9⟩
      refine (show Pv _ _ 161 [some (.ref 69), o1, o2, o3, o4] [] G7 Q from ?_)
      exact Pv.vret rfl (by rw [hQ]; exact ⟨rfl, RXS.rx rx2 x8, hs9, (x8.2.1 29 (by decide)).trans hx2⟩)
    refine Pv.aload rfl rfl ?_
    refine Pv.lit rfl ?_
    refine Pv.callVI (as := [.ref 69, .int 90]) (rest := []) (z := Int32.ofNat (dr (m_nx (m_dDx T S x)) 90)) rfl rfl rfl (g_draw (x := (m_dDx T S x)) (n := 90) (hx) (by omega) (by omega)) ?_
    refine Pv.if0 rfl (fun c10 => ?_) (fun c10 => ?_)
    · skip
      replace c10 : decide (Int32.ofNat (dr (m_nx (m_dDx T S x)) 90) = 0) = false := by simpa using c10
      replace c10 := mt (i_eq (a := dr (m_nx (m_dDx T S x)) 90) (b := 0) (by omega) (by omega)).mpr (of_decide_eq_false c10)
      exact cut4 (fp G 69 29 (m_nx (m_dDx T S x))) (RXS.sd rx (Or.inr rfl)) (by rw [dXs_n (fun q => c10 q.1)]; exact (XS.sd (a := 69) (k := 29) (v := (m_nx (m_dDx T S x))) hs b3 (by decide))) (by unfold m_d2; rw [dXx_n (fun q => c10 q.1)]; exact fp_eq)
    · skip
      replace c10 : decide (Int32.ofNat (dr (m_nx (m_dDx T S x)) 90) = 0) = true := by simpa using c10
      replace c10 := (i_eq (a := dr (m_nx (m_dDx T S x)) 90) (b := 0) (by omega) (by omega)).mp (of_decide_eq_true c10)
      refine Pv.aload rfl rfl ?_
      refine Pv.getR (v := .ref 71) rfl rfl (GW.at (a := 69) (k := 6) (b := 71) hx3 (by decide)) ?_
      refine Pv.lit rfl ?_
      refine Pv.ald (z := Int32.ofNat (t_m T)) rfl ((fp_ne (Or.inl (by decide))).trans (hx2.m)) ?_
      refine Pv.if0 rfl (fun c11 => ?_) (fun c11 => ?_)
      · skip
        replace c11 := (i_le (a := t_m T) (b := 0) (by omega) (by omega)).mp (of_decide_eq_true c11)
        exact cut4 (fp G 69 29 (m_nx (m_dDx T S x))) (RXS.sd rx (Or.inr rfl)) (by rw [dXs_n (fun q => absurd q.2 (by omega))]; exact (XS.sd (a := 69) (k := 29) (v := (m_nx (m_dDx T S x))) hs b3 (by decide))) (by unfold m_d2; rw [dXx_n (fun q => absurd q.2 (by omega))]; exact fp_eq)
      · skip
        replace c11 := mt (i_le (a := t_m T) (b := 0) (by omega) (by omega)).mpr (of_decide_eq_false c11)
        have d5 : dr (m_nx (m_nx (m_dDx T S x))) (t_m T) < t_m T := Nat.mod_lt _ (by omega)
        refine Pv.aload rfl rfl ?_
        refine Pv.getR (v := .ref 71) rfl rfl (GW.at (a := 69) (k := 6) (b := 71) hx3 (by decide)) ?_
        refine Pv.lit rfl ?_
        refine Pv.dup2 rfl ?_
        refine Pv.ald (z := G.1 71 180) rfl (fp_ne (Or.inl (by decide))) ?_
        refine Pv.lit rfl ?_
        refine Pv.aload rfl rfl ?_
        refine Pv.aload rfl rfl ?_
        refine Pv.getR (v := .ref 71) rfl rfl (GW.at (a := 69) (k := 6) (b := 71) hx3 (by decide)) ?_
        refine Pv.lit rfl ?_
        refine Pv.ald (z := Int32.ofNat (t_m T)) rfl ((fp_ne (Or.inl (by decide))).trans (hx2.m)) ?_
        refine Pv.callVI (as := [.ref 69, .int (Int32.ofNat (t_m T))]) (rest := [.int 1, .int (G.1 71 180), .int 180, .ref 71]) (z := Int32.ofNat (dr (m_nx (m_nx (m_dDx T S x))) (t_m T))) rfl rfl rfl (g_draw (x := m_nx (m_dDx T S x)) (n := t_m T) (fp_eq) (by omega) (by omega)) ?_
        refine Pv.bin (z := 1 <<< ((Int32.ofNat (dr (m_nx (m_nx (m_dDx T S x))) (t_m T))) &&& 31)) rfl (rfl) ?_
        refine Pv.bin (z := (G.1 71 180) ||| (1 <<< ((Int32.ofNat (dr (m_nx (m_nx (m_dDx T S x))) (t_m T))) &&& 31))) rfl (rfl) ?_
        refine Pv.astk (k := 180) (z := (G.1 71 180) ||| (1 <<< ((Int32.ofNat (dr (m_nx (m_nx (m_dDx T S x))) (t_m T))) &&& 31))) rfl (rfl) (rfl) ?_
        exact cut4 (fp (fp (fp G 69 29 (m_nx (m_dDx T S x))) 69 29 (m_nx (m_nx (m_dDx T S x)))) 71 180 ((G.1 71 180) ||| (1 <<< ((Int32.ofNat (dr (m_nx (m_nx (m_dDx T S x))) (t_m T))) &&& 31)))) (RXS.st (RXS.sd (RXS.sd rx (Or.inr rfl)) (Or.inr rfl)) (by omega) (by omega)) (by rw [dXs_y c10 (by omega)]; exact XS.die3b (XS.sd (a := 69) (k := 29) (v := (m_nx (m_nx (m_dDx T S x)))) (XS.sd (a := 69) (k := 29) (v := (m_nx (m_dDx T S x))) hs b3 (by decide)) b3 (by decide)) b3 (by omega) ((fp_ne (Or.inl (by decide))).trans (fp_ne (Or.inl (by decide))))) (by unfold m_d2; rw [dXx_y c10 (by omega)]; exact (fp_ne (Or.inl (by decide))).trans (fp_eq))
  refine Pv.iload rfl rfl ?_
  refine Pv.lit rfl ?_
  refine Pv.icmp rfl (fun c12 => ?_) (fun c12 => ?_)
  · skip
    replace c12 := (i_le (a := 3) (b := dr (m_nx x) 6) (by omega) (by omega)).mp (of_decide_eq_true c12)
    exact cut1 (fp F 69 29 (m_nx x)) (RXS.sd RXS.rf (Or.inr rfl)) (by rw [dDs_n (T := T) (S := S) (by omega)]; exact (XS.sd (a := 69) (k := 29) (v := (m_nx x)) hS b3 (by decide))) (by rw [dDx_n (T := T) (S := S) (by omega)]; exact fp_eq) (some (.int (Int32.ofNat (dr (m_nx x) 6)))) none none none
  · skip
    replace c12 := mt (i_le (a := 3) (b := dr (m_nx x) 6) (by omega) (by omega)).mpr (of_decide_eq_false c12)
    refine Pv.aload rfl rfl ?_
    refine Pv.aload rfl rfl ?_
    refine Pv.getR (v := .ref 71) rfl rfl (GW.at (a := 69) (k := 6) (b := 71) hG (by decide)) ?_
    refine Pv.lit rfl ?_
    refine Pv.ald (z := Int32.ofNat (t_g T)) rfl ((fp_ne (Or.inl (by decide))).trans (hT.g)) ?_
    refine Pv.callVI (as := [.ref 69, .int (Int32.ofNat (t_g T))]) (rest := []) (z := Int32.ofNat (dr (m_nx (m_nx x)) (t_g T))) rfl rfl rfl (g_draw (x := m_nx x) (n := t_g T) (fp_eq) (by omega) (by omega)) ?_
    refine Pv.istore (lo' := [some (.ref 69), some (.int (Int32.ofNat (dr (m_nx x) 6))), some (.int (Int32.ofNat (dr (m_nx (m_nx x)) (t_g T)))), none, none]) rfl rfl ?_
    refine Pv.iload rfl rfl ?_
    refine Pv.aload rfl rfl ?_
    refine Pv.lit rfl ?_
    refine Pv.callVI (as := [.ref 69, .int 2]) (rest := [.int (Int32.ofNat (dr (m_nx (m_nx x)) (t_g T)))]) (z := Int32.ofNat (dr (m_nx (m_nx (m_nx x))) 2)) rfl rfl rfl (g_draw (x := m_nx (m_nx x)) (n := 2) (fp_eq) (by omega) (by omega)) ?_
    refine Pv.callI (as := [.int (Int32.ofNat (dr (m_nx (m_nx x)) (t_g T))), .int (Int32.ofNat (dr (m_nx (m_nx (m_nx x))) 2))]) (rest := []) (z := Int32.ofNat (2 * (dr (m_nx (m_nx x)) (t_g T)) + (dr (m_nx (m_nx (m_nx x))) 2))) rfl rfl rfl (g_cell (g := dr (m_nx (m_nx x)) (t_g T)) (s := dr (m_nx (m_nx (m_nx x))) 2)) ?_
    refine Pv.istore (lo' := [some (.ref 69), some (.int (Int32.ofNat (dr (m_nx x) 6))), some (.int (Int32.ofNat (dr (m_nx (m_nx x)) (t_g T)))), some (.int (Int32.ofNat (2 * (dr (m_nx (m_nx x)) (t_g T)) + (dr (m_nx (m_nx (m_nx x))) 2)))), none]) rfl rfl ?_
    refine Pv.lit rfl ?_
    refine Pv.aload rfl rfl ?_
    refine Pv.lit rfl ?_
    refine Pv.callVI (as := [.ref 69, .int 20]) (rest := [.int 1]) (z := Int32.ofNat (dr (m_nx (m_nx (m_nx (m_nx x)))) 20)) rfl rfl rfl (g_draw (x := m_nx (m_nx (m_nx x))) (n := 20) (fp_eq) (by omega) (by omega)) ?_
    refine Pv.bin (z := Int32.ofNat (dr (m_nx (m_nx (m_nx (m_nx x)))) 20 + 1)) rfl ((i_add 1 (dr (m_nx (m_nx (m_nx (m_nx x)))) 20)).trans (congrArg Int32.ofNat (Nat.add_comm 1 _))) ?_
    refine Pv.istore (lo' := [some (.ref 69), some (.int (Int32.ofNat (dr (m_nx x) 6))), some (.int (Int32.ofNat (dr (m_nx (m_nx x)) (t_g T)))), some (.int (Int32.ofNat (2 * (dr (m_nx (m_nx x)) (t_g T)) + (dr (m_nx (m_nx (m_nx x))) 2)))), some (.int (Int32.ofNat (dr (m_nx (m_nx (m_nx (m_nx x)))) 20 + 1)))]) rfl rfl ?_
    have d1 : dr (m_nx (m_nx x)) (t_g T) < t_g T := Nat.mod_lt _ hg
    have d2 : dr (m_nx (m_nx (m_nx x))) 2 < 2 := Nat.mod_lt _ (by decide)
    have d3 : dr (m_nx (m_nx (m_nx (m_nx x)))) 20 < 20 := Nat.mod_lt _ (by decide)
    refine Pv.iload rfl rfl ?_
    refine Pv.if0 rfl (fun c13 => ?_) (fun c13 => ?_)
    · skip
      replace c13 : decide (Int32.ofNat (dr (m_nx x) 6) = 0) = false := by simpa using c13
      replace c13 := mt (i_eq (a := dr (m_nx x) 6) (b := 0) (by omega) (by omega)).mpr (of_decide_eq_false c13)
      refine Pv.iload rfl rfl ?_
      refine Pv.lit rfl ?_
      refine Pv.icmp rfl (fun c14 => ?_) (fun c14 => ?_)
      · skip
        replace c14 : decide (Int32.ofNat (dr (m_nx x) 6) = 1) = false := by simpa using c14
        replace c14 := mt (i_eq (a := dr (m_nx x) 6) (b := 1) (by omega) (by omega)).mpr (of_decide_eq_false c14)
        refine Pv.iload rfl rfl ?_
        refine Pv.lit rfl ?_
        refine Pv.icmp rfl (fun c15 => ?_) (fun c15 => ?_)
        · skip
          replace c15 : decide (Int32.ofNat (dr (m_nx x) 6) = 2) = false := by simpa using c15
          replace c15 := mt (i_eq (a := dr (m_nx x) 6) (b := 2) (by omega) (by omega)).mpr (of_decide_eq_false c15)
          omega
        · skip
          replace c15 : decide (Int32.ofNat (dr (m_nx x) 6) = 2) = true := by simpa using c15
          replace c15 := (i_eq (a := dr (m_nx x) 6) (b := 2) (by omega) (by omega)).mp (of_decide_eq_true c15)
          refine Pv.aload rfl rfl ?_
          refine Pv.iload rfl rfl ?_
          refine Pv.iload rfl rfl ?_
          refine Pv.callVI (as := [.ref 69, .int (Int32.ofNat (2 * (dr (m_nx (m_nx x)) (t_g T)) + (dr (m_nx (m_nx (m_nx x))) 2))), .int (Int32.ofNat (dr (m_nx (m_nx (m_nx (m_nx x)))) 20 + 1))]) (rest := []) (z := m_why 0 S (2 * (dr (m_nx (m_nx x)) (t_g T)) + (dr (m_nx (m_nx (m_nx x))) 2)) (Int32.ofNat (dr (m_nx (m_nx (m_nx (m_nx x)))) 20 + 1))) rfl rfl rfl (g_whyHoard (k := 2 * (dr (m_nx (m_nx x)) (t_g T)) + (dr (m_nx (m_nx (m_nx x))) 2)) (n := Int32.ofNat (dr (m_nx (m_nx (m_nx (m_nx x)))) 20 + 1)) (XS.sd (a := 69) (k := 29) (v := (m_nx (m_nx (m_nx (m_nx x))))) (XS.sd (a := 69) (k := 29) (v := (m_nx (m_nx (m_nx x)))) (XS.sd (a := 69) (k := 29) (v := (m_nx (m_nx x))) (XS.sd (a := 69) (k := 29) (v := (m_nx x)) hS b3 (by decide)) b3 (by decide)) b3 (by decide)) b3 (by decide)) (GW.fpp (a := 69) (k := 29) (v := (m_nx (m_nx (m_nx (m_nx x))))) (GW.fpp (a := 69) (k := 29) (v := (m_nx (m_nx (m_nx x)))) (GW.fpp (a := 69) (k := 29) (v := (m_nx (m_nx x))) (GW.fpp (a := 69) (k := 29) (v := (m_nx x)) hG)))) (by omega)) ?_
          refine Pv.if0 rfl (fun c16 => ?_) (fun c16 => ?_)
          · skip
            replace c16 : decide (m_why 0 S (2 * (dr (m_nx (m_nx x)) (t_g T)) + (dr (m_nx (m_nx (m_nx x))) 2)) (Int32.ofNat (dr (m_nx (m_nx (m_nx (m_nx x)))) 20 + 1)) = 0) = false := by simpa using c16
            replace c16 := of_decide_eq_false c16
            exact cut1 (fp (fp (fp (fp F 69 29 (m_nx x)) 69 29 (m_nx (m_nx x))) 69 29 (m_nx (m_nx (m_nx x)))) 69 29 (m_nx (m_nx (m_nx (m_nx x))))) (RXS.sd (RXS.sd (RXS.sd (RXS.sd RXS.rf (Or.inr rfl)) (Or.inr rfl)) (Or.inr rfl)) (Or.inr rfl)) (by rw [dDs_y (T := T) (S := S) (d := 2) (by omega) (by omega)]; rw [try_n (d := 2) c16]; exact (XS.sd (a := 69) (k := 29) (v := (m_nx (m_nx (m_nx (m_nx x))))) (XS.sd (a := 69) (k := 29) (v := (m_nx (m_nx (m_nx x)))) (XS.sd (a := 69) (k := 29) (v := (m_nx (m_nx x))) (XS.sd (a := 69) (k := 29) (v := (m_nx x)) hS b3 (by decide)) b3 (by decide)) b3 (by decide)) b3 (by decide))) (by rw [dDx_y (T := T) (S := S) (by omega)]; exact fp_eq) (some (.int (Int32.ofNat (dr (m_nx x) 6)))) (some (.int (Int32.ofNat (dr (m_nx (m_nx x)) (t_g T))))) (some (.int (Int32.ofNat (2 * (dr (m_nx (m_nx x)) (t_g T)) + (dr (m_nx (m_nx (m_nx x))) 2))))) (some (.int (Int32.ofNat (dr (m_nx (m_nx (m_nx (m_nx x)))) 20 + 1))))
          · skip
            replace c16 : decide (m_why 0 S (2 * (dr (m_nx (m_nx x)) (t_g T)) + (dr (m_nx (m_nx (m_nx x))) 2)) (Int32.ofNat (dr (m_nx (m_nx (m_nx (m_nx x)))) 20 + 1)) = 0) = true := by simpa using c16
            replace c16 := of_decide_eq_true c16
            refine Pv.aload rfl rfl ?_
            refine Pv.getR (v := .ref 71) rfl rfl (GW.at (a := 69) (k := 6) (b := 71) hG (by decide)) ?_
            refine Pv.lit rfl ?_
            refine Pv.iload rfl rfl ?_
            refine Pv.bin (z := Int32.ofNat (124 + (2 * (dr (m_nx (m_nx x)) (t_g T)) + (dr (m_nx (m_nx (m_nx x))) 2)))) rfl (i_add 124 (2 * (dr (m_nx (m_nx x)) (t_g T)) + (dr (m_nx (m_nx (m_nx x))) 2))) ?_
            refine Pv.dup2 rfl ?_
            refine Pv.ald (z := h_s S (2 * (dr (m_nx (m_nx x)) (t_g T)) + (dr (m_nx (m_nx (m_nx x))) 2))) rfl (by rw [i_toNat (by omega)]; exact (fp_ne (Or.inl (by decide))).trans ((fp_ne (Or.inl (by decide))).trans ((fp_ne (Or.inl (by decide))).trans ((fp_ne (Or.inl (by decide))).trans (hS.s _ (by omega)))))) ?_
            refine Pv.iload rfl rfl ?_
            refine Pv.bin (z := (h_s S (2 * (dr (m_nx (m_nx x)) (t_g T)) + (dr (m_nx (m_nx (m_nx x))) 2))) - (Int32.ofNat (dr (m_nx (m_nx (m_nx (m_nx x)))) 20 + 1))) rfl (rfl) ?_
            refine Pv.astk (k := 124 + (2 * (dr (m_nx (m_nx x)) (t_g T)) + (dr (m_nx (m_nx (m_nx x))) 2))) (z := (h_s S (2 * (dr (m_nx (m_nx x)) (t_g T)) + (dr (m_nx (m_nx (m_nx x))) 2))) - (Int32.ofNat (dr (m_nx (m_nx (m_nx (m_nx x)))) 20 + 1))) rfl (i_toNat (by omega)) (rfl) ?_
            exact cut1 (fp (fp (fp (fp (fp F 69 29 (m_nx x)) 69 29 (m_nx (m_nx x))) 69 29 (m_nx (m_nx (m_nx x)))) 69 29 (m_nx (m_nx (m_nx (m_nx x))))) 71 (124 + (2 * (dr (m_nx (m_nx x)) (t_g T)) + (dr (m_nx (m_nx (m_nx x))) 2))) ((h_s S (2 * (dr (m_nx (m_nx x)) (t_g T)) + (dr (m_nx (m_nx (m_nx x))) 2))) - (Int32.ofNat (dr (m_nx (m_nx (m_nx (m_nx x)))) 20 + 1)))) (RXS.st (RXS.sd (RXS.sd (RXS.sd (RXS.sd RXS.rf (Or.inr rfl)) (Or.inr rfl)) (Or.inr rfl)) (Or.inr rfl)) (by omega) (by omega)) (by rw [dDs_y (T := T) (S := S) (d := 2) (by omega) (by omega)]; rw [try_y (d := 2) c16]; exact XS.do2 (XS.sd (a := 69) (k := 29) (v := (m_nx (m_nx (m_nx (m_nx x))))) (XS.sd (a := 69) (k := 29) (v := (m_nx (m_nx (m_nx x)))) (XS.sd (a := 69) (k := 29) (v := (m_nx (m_nx x))) (XS.sd (a := 69) (k := 29) (v := (m_nx x)) hS b3 (by decide)) b3 (by decide)) b3 (by decide)) b3 (by decide)) b3 (by omega)) (by rw [dDx_y (T := T) (S := S) (by omega)]; exact (fp_ne (Or.inl (by decide))).trans (fp_eq)) (some (.int (Int32.ofNat (dr (m_nx x) 6)))) (some (.int (Int32.ofNat (dr (m_nx (m_nx x)) (t_g T))))) (some (.int (Int32.ofNat (2 * (dr (m_nx (m_nx x)) (t_g T)) + (dr (m_nx (m_nx (m_nx x))) 2))))) (some (.int (Int32.ofNat (dr (m_nx (m_nx (m_nx (m_nx x)))) 20 + 1))))
      · skip
        replace c14 : decide (Int32.ofNat (dr (m_nx x) 6) = 1) = true := by simpa using c14
        replace c14 := (i_eq (a := dr (m_nx x) 6) (b := 1) (by omega) (by omega)).mp (of_decide_eq_true c14)
        refine Pv.aload rfl rfl ?_
        refine Pv.iload rfl rfl ?_
        refine Pv.iload rfl rfl ?_
        refine Pv.callVI (as := [.ref 69, .int (Int32.ofNat (2 * (dr (m_nx (m_nx x)) (t_g T)) + (dr (m_nx (m_nx (m_nx x))) 2))), .int (Int32.ofNat (dr (m_nx (m_nx (m_nx (m_nx x)))) 20 + 1))]) (rest := []) (z := m_why 1 S (2 * (dr (m_nx (m_nx x)) (t_g T)) + (dr (m_nx (m_nx (m_nx x))) 2)) (Int32.ofNat (dr (m_nx (m_nx (m_nx (m_nx x)))) 20 + 1))) rfl rfl rfl (g_whyBare (k := 2 * (dr (m_nx (m_nx x)) (t_g T)) + (dr (m_nx (m_nx (m_nx x))) 2)) (n := Int32.ofNat (dr (m_nx (m_nx (m_nx (m_nx x)))) 20 + 1)) (XS.sd (a := 69) (k := 29) (v := (m_nx (m_nx (m_nx (m_nx x))))) (XS.sd (a := 69) (k := 29) (v := (m_nx (m_nx (m_nx x)))) (XS.sd (a := 69) (k := 29) (v := (m_nx (m_nx x))) (XS.sd (a := 69) (k := 29) (v := (m_nx x)) hS b3 (by decide)) b3 (by decide)) b3 (by decide)) b3 (by decide)) (GW.fpp (a := 69) (k := 29) (v := (m_nx (m_nx (m_nx (m_nx x))))) (GW.fpp (a := 69) (k := 29) (v := (m_nx (m_nx (m_nx x)))) (GW.fpp (a := 69) (k := 29) (v := (m_nx (m_nx x))) (GW.fpp (a := 69) (k := 29) (v := (m_nx x)) hG)))) (by omega)) ?_
        refine Pv.if0 rfl (fun c17 => ?_) (fun c17 => ?_)
        · skip
          replace c17 : decide (m_why 1 S (2 * (dr (m_nx (m_nx x)) (t_g T)) + (dr (m_nx (m_nx (m_nx x))) 2)) (Int32.ofNat (dr (m_nx (m_nx (m_nx (m_nx x)))) 20 + 1)) = 0) = false := by simpa using c17
          replace c17 := of_decide_eq_false c17
          refine Pv.iload rfl rfl ?_
          refine Pv.lit rfl ?_
          refine Pv.icmp rfl (fun c18 => ?_) (fun c18 => ?_)
          · skip
            replace c18 : decide (Int32.ofNat (dr (m_nx x) 6) = 2) = false := by simpa using c18
            replace c18 := mt (i_eq (a := dr (m_nx x) 6) (b := 2) (by omega) (by omega)).mpr (of_decide_eq_false c18)
            exact cut1 (fp (fp (fp (fp F 69 29 (m_nx x)) 69 29 (m_nx (m_nx x))) 69 29 (m_nx (m_nx (m_nx x)))) 69 29 (m_nx (m_nx (m_nx (m_nx x))))) (RXS.sd (RXS.sd (RXS.sd (RXS.sd RXS.rf (Or.inr rfl)) (Or.inr rfl)) (Or.inr rfl)) (Or.inr rfl)) (by rw [dDs_y (T := T) (S := S) (d := 1) (by omega) (by omega)]; rw [try_n (d := 1) c17]; exact (XS.sd (a := 69) (k := 29) (v := (m_nx (m_nx (m_nx (m_nx x))))) (XS.sd (a := 69) (k := 29) (v := (m_nx (m_nx (m_nx x)))) (XS.sd (a := 69) (k := 29) (v := (m_nx (m_nx x))) (XS.sd (a := 69) (k := 29) (v := (m_nx x)) hS b3 (by decide)) b3 (by decide)) b3 (by decide)) b3 (by decide))) (by rw [dDx_y (T := T) (S := S) (by omega)]; exact fp_eq) (some (.int (Int32.ofNat (dr (m_nx x) 6)))) (some (.int (Int32.ofNat (dr (m_nx (m_nx x)) (t_g T))))) (some (.int (Int32.ofNat (2 * (dr (m_nx (m_nx x)) (t_g T)) + (dr (m_nx (m_nx (m_nx x))) 2))))) (some (.int (Int32.ofNat (dr (m_nx (m_nx (m_nx (m_nx x)))) 20 + 1))))
          · skip
            replace c18 : decide (Int32.ofNat (dr (m_nx x) 6) = 2) = true := by simpa using c18
            replace c18 := (i_eq (a := dr (m_nx x) 6) (b := 2) (by omega) (by omega)).mp (of_decide_eq_true c18)
            omega
        · skip
          replace c17 : decide (m_why 1 S (2 * (dr (m_nx (m_nx x)) (t_g T)) + (dr (m_nx (m_nx (m_nx x))) 2)) (Int32.ofNat (dr (m_nx (m_nx (m_nx (m_nx x)))) 20 + 1)) = 0) = true := by simpa using c17
          replace c17 := of_decide_eq_true c17
          refine Pv.aload rfl rfl ?_
          refine Pv.iload rfl rfl ?_
          refine Pv.iload rfl rfl ?_
          refine Pv.un (z := -(Int32.ofNat (dr (m_nx (m_nx (m_nx (m_nx x)))) 20 + 1))) rfl (rfl) ?_
          refine Pv.callVU (as := [.ref 69, .int (Int32.ofNat (2 * (dr (m_nx (m_nx x)) (t_g T)) + (dr (m_nx (m_nx (m_nx x))) 2))), .int (-(Int32.ofNat (dr (m_nx (m_nx (m_nx (m_nx x)))) 20 + 1)))]) (rest := []) rfl rfl rfl (g_hoards (k := 2 * (dr (m_nx (m_nx x)) (t_g T)) + (dr (m_nx (m_nx (m_nx x))) 2)) (n := -(Int32.ofNat (dr (m_nx (m_nx (m_nx (m_nx x)))) 20 + 1))) (XS.sd (a := 69) (k := 29) (v := (m_nx (m_nx (m_nx (m_nx x))))) (XS.sd (a := 69) (k := 29) (v := (m_nx (m_nx (m_nx x)))) (XS.sd (a := 69) (k := 29) (v := (m_nx (m_nx x))) (XS.sd (a := 69) (k := 29) (v := (m_nx x)) hS b3 (by decide)) b3 (by decide)) b3 (by decide)) b3 (by decide)) (GW.fpp (a := 69) (k := 29) (v := (m_nx (m_nx (m_nx (m_nx x))))) (GW.fpp (a := 69) (k := 29) (v := (m_nx (m_nx (m_nx x)))) (GW.fpp (a := 69) (k := 29) (v := (m_nx (m_nx x))) (GW.fpp (a := 69) (k := 29) (v := (m_nx x)) hG)))) (by omega)) ?_
          refine Pv.iload rfl rfl ?_
          refine Pv.lit rfl ?_
          refine Pv.icmp rfl (fun c19 => ?_) (fun c19 => ?_)
          · skip
            replace c19 : decide (Int32.ofNat (dr (m_nx x) 6) = 2) = false := by simpa using c19
            replace c19 := mt (i_eq (a := dr (m_nx x) 6) (b := 2) (by omega) (by omega)).mpr (of_decide_eq_false c19)
            exact cut1 (fp (fp (fp (fp (fp (fp F 69 29 (m_nx x)) 69 29 (m_nx (m_nx x))) 69 29 (m_nx (m_nx (m_nx x)))) 69 29 (m_nx (m_nx (m_nx (m_nx x))))) 71 (124 + (2 * (dr (m_nx (m_nx x)) (t_g T)) + (dr (m_nx (m_nx (m_nx x))) 2))) (h_s S (2 * (dr (m_nx (m_nx x)) (t_g T)) + (dr (m_nx (m_nx (m_nx x))) 2)) - (-(Int32.ofNat (dr (m_nx (m_nx (m_nx (m_nx x)))) 20 + 1))))) 71 (136 + (2 * (dr (m_nx (m_nx x)) (t_g T)) + (dr (m_nx (m_nx (m_nx x))) 2))) (h_h S (2 * (dr (m_nx (m_nx x)) (t_g T)) + (dr (m_nx (m_nx (m_nx x))) 2)) + (-(Int32.ofNat (dr (m_nx (m_nx (m_nx (m_nx x)))) 20 + 1))))) (RXS.st (RXS.st (RXS.sd (RXS.sd (RXS.sd (RXS.sd RXS.rf (Or.inr rfl)) (Or.inr rfl)) (Or.inr rfl)) (Or.inr rfl)) (by omega) (by omega)) (by omega) (by omega)) (by rw [dDs_y (T := T) (S := S) (d := 1) (by omega) (by omega)]; rw [try_y (d := 1) c17]; exact XS.do1 (XS.sd (a := 69) (k := 29) (v := (m_nx (m_nx (m_nx (m_nx x))))) (XS.sd (a := 69) (k := 29) (v := (m_nx (m_nx (m_nx x)))) (XS.sd (a := 69) (k := 29) (v := (m_nx (m_nx x))) (XS.sd (a := 69) (k := 29) (v := (m_nx x)) hS b3 (by decide)) b3 (by decide)) b3 (by decide)) b3 (by decide)) b3 (by omega)) (by rw [dDx_y (T := T) (S := S) (by omega)]; exact (fp_ne (Or.inl (by decide))).trans ((fp_ne (Or.inl (by decide))).trans (fp_eq))) (some (.int (Int32.ofNat (dr (m_nx x) 6)))) (some (.int (Int32.ofNat (dr (m_nx (m_nx x)) (t_g T))))) (some (.int (Int32.ofNat (2 * (dr (m_nx (m_nx x)) (t_g T)) + (dr (m_nx (m_nx (m_nx x))) 2))))) (some (.int (Int32.ofNat (dr (m_nx (m_nx (m_nx (m_nx x)))) 20 + 1))))
          · skip
            replace c19 : decide (Int32.ofNat (dr (m_nx x) 6) = 2) = true := by simpa using c19
            replace c19 := (i_eq (a := dr (m_nx x) 6) (b := 2) (by omega) (by omega)).mp (of_decide_eq_true c19)
            omega
    · skip
      replace c13 : decide (Int32.ofNat (dr (m_nx x) 6) = 0) = true := by simpa using c13
      replace c13 := (i_eq (a := dr (m_nx x) 6) (b := 0) (by omega) (by omega)).mp (of_decide_eq_true c13)
      refine Pv.aload rfl rfl ?_
      refine Pv.iload rfl rfl ?_
      refine Pv.iload rfl rfl ?_
      refine Pv.callVI (as := [.ref 69, .int (Int32.ofNat (2 * (dr (m_nx (m_nx x)) (t_g T)) + (dr (m_nx (m_nx (m_nx x))) 2))), .int (Int32.ofNat (dr (m_nx (m_nx (m_nx (m_nx x)))) 20 + 1))]) (rest := []) (z := m_why 0 S (2 * (dr (m_nx (m_nx x)) (t_g T)) + (dr (m_nx (m_nx (m_nx x))) 2)) (Int32.ofNat (dr (m_nx (m_nx (m_nx (m_nx x)))) 20 + 1))) rfl rfl rfl (g_whyHoard (k := 2 * (dr (m_nx (m_nx x)) (t_g T)) + (dr (m_nx (m_nx (m_nx x))) 2)) (n := Int32.ofNat (dr (m_nx (m_nx (m_nx (m_nx x)))) 20 + 1)) (XS.sd (a := 69) (k := 29) (v := (m_nx (m_nx (m_nx (m_nx x))))) (XS.sd (a := 69) (k := 29) (v := (m_nx (m_nx (m_nx x)))) (XS.sd (a := 69) (k := 29) (v := (m_nx (m_nx x))) (XS.sd (a := 69) (k := 29) (v := (m_nx x)) hS b3 (by decide)) b3 (by decide)) b3 (by decide)) b3 (by decide)) (GW.fpp (a := 69) (k := 29) (v := (m_nx (m_nx (m_nx (m_nx x))))) (GW.fpp (a := 69) (k := 29) (v := (m_nx (m_nx (m_nx x)))) (GW.fpp (a := 69) (k := 29) (v := (m_nx (m_nx x))) (GW.fpp (a := 69) (k := 29) (v := (m_nx x)) hG)))) (by omega)) ?_
      refine Pv.if0 rfl (fun c20 => ?_) (fun c20 => ?_)
      · skip
        replace c20 : decide (m_why 0 S (2 * (dr (m_nx (m_nx x)) (t_g T)) + (dr (m_nx (m_nx (m_nx x))) 2)) (Int32.ofNat (dr (m_nx (m_nx (m_nx (m_nx x)))) 20 + 1)) = 0) = false := by simpa using c20
        replace c20 := of_decide_eq_false c20
        refine Pv.iload rfl rfl ?_
        refine Pv.lit rfl ?_
        refine Pv.icmp rfl (fun c21 => ?_) (fun c21 => ?_)
        · skip
          replace c21 : decide (Int32.ofNat (dr (m_nx x) 6) = 1) = false := by simpa using c21
          replace c21 := mt (i_eq (a := dr (m_nx x) 6) (b := 1) (by omega) (by omega)).mpr (of_decide_eq_false c21)
          refine Pv.iload rfl rfl ?_
          refine Pv.lit rfl ?_
          refine Pv.icmp rfl (fun c22 => ?_) (fun c22 => ?_)
          · skip
            replace c22 : decide (Int32.ofNat (dr (m_nx x) 6) = 2) = false := by simpa using c22
            replace c22 := mt (i_eq (a := dr (m_nx x) 6) (b := 2) (by omega) (by omega)).mpr (of_decide_eq_false c22)
            exact cut1 (fp (fp (fp (fp F 69 29 (m_nx x)) 69 29 (m_nx (m_nx x))) 69 29 (m_nx (m_nx (m_nx x)))) 69 29 (m_nx (m_nx (m_nx (m_nx x))))) (RXS.sd (RXS.sd (RXS.sd (RXS.sd RXS.rf (Or.inr rfl)) (Or.inr rfl)) (Or.inr rfl)) (Or.inr rfl)) (by rw [dDs_y (T := T) (S := S) (d := 0) (by omega) (by omega)]; rw [try_n (d := 0) c20]; exact (XS.sd (a := 69) (k := 29) (v := (m_nx (m_nx (m_nx (m_nx x))))) (XS.sd (a := 69) (k := 29) (v := (m_nx (m_nx (m_nx x)))) (XS.sd (a := 69) (k := 29) (v := (m_nx (m_nx x))) (XS.sd (a := 69) (k := 29) (v := (m_nx x)) hS b3 (by decide)) b3 (by decide)) b3 (by decide)) b3 (by decide))) (by rw [dDx_y (T := T) (S := S) (by omega)]; exact fp_eq) (some (.int (Int32.ofNat (dr (m_nx x) 6)))) (some (.int (Int32.ofNat (dr (m_nx (m_nx x)) (t_g T))))) (some (.int (Int32.ofNat (2 * (dr (m_nx (m_nx x)) (t_g T)) + (dr (m_nx (m_nx (m_nx x))) 2))))) (some (.int (Int32.ofNat (dr (m_nx (m_nx (m_nx (m_nx x)))) 20 + 1))))
          · skip
            replace c22 : decide (Int32.ofNat (dr (m_nx x) 6) = 2) = true := by simpa using c22
            replace c22 := (i_eq (a := dr (m_nx x) 6) (b := 2) (by omega) (by omega)).mp (of_decide_eq_true c22)
            omega
        · skip
          replace c21 : decide (Int32.ofNat (dr (m_nx x) 6) = 1) = true := by simpa using c21
          replace c21 := (i_eq (a := dr (m_nx x) 6) (b := 1) (by omega) (by omega)).mp (of_decide_eq_true c21)
          omega
      · skip
        replace c20 : decide (m_why 0 S (2 * (dr (m_nx (m_nx x)) (t_g T)) + (dr (m_nx (m_nx (m_nx x))) 2)) (Int32.ofNat (dr (m_nx (m_nx (m_nx (m_nx x)))) 20 + 1)) = 0) = true := by simpa using c20
        replace c20 := of_decide_eq_true c20
        refine Pv.aload rfl rfl ?_
        refine Pv.iload rfl rfl ?_
        refine Pv.iload rfl rfl ?_
        refine Pv.callVU (as := [.ref 69, .int (Int32.ofNat (2 * (dr (m_nx (m_nx x)) (t_g T)) + (dr (m_nx (m_nx (m_nx x))) 2))), .int (Int32.ofNat (dr (m_nx (m_nx (m_nx (m_nx x)))) 20 + 1))]) (rest := []) rfl rfl rfl (g_hoards (k := 2 * (dr (m_nx (m_nx x)) (t_g T)) + (dr (m_nx (m_nx (m_nx x))) 2)) (n := Int32.ofNat (dr (m_nx (m_nx (m_nx (m_nx x)))) 20 + 1)) (XS.sd (a := 69) (k := 29) (v := (m_nx (m_nx (m_nx (m_nx x))))) (XS.sd (a := 69) (k := 29) (v := (m_nx (m_nx (m_nx x)))) (XS.sd (a := 69) (k := 29) (v := (m_nx (m_nx x))) (XS.sd (a := 69) (k := 29) (v := (m_nx x)) hS b3 (by decide)) b3 (by decide)) b3 (by decide)) b3 (by decide)) (GW.fpp (a := 69) (k := 29) (v := (m_nx (m_nx (m_nx (m_nx x))))) (GW.fpp (a := 69) (k := 29) (v := (m_nx (m_nx (m_nx x)))) (GW.fpp (a := 69) (k := 29) (v := (m_nx (m_nx x))) (GW.fpp (a := 69) (k := 29) (v := (m_nx x)) hG)))) (by omega)) ?_
        refine Pv.iload rfl rfl ?_
        refine Pv.lit rfl ?_
        refine Pv.icmp rfl (fun c23 => ?_) (fun c23 => ?_)
        · skip
          replace c23 : decide (Int32.ofNat (dr (m_nx x) 6) = 1) = false := by simpa using c23
          replace c23 := mt (i_eq (a := dr (m_nx x) 6) (b := 1) (by omega) (by omega)).mpr (of_decide_eq_false c23)
          refine Pv.iload rfl rfl ?_
          refine Pv.lit rfl ?_
          refine Pv.icmp rfl (fun c24 => ?_) (fun c24 => ?_)
          · skip
            replace c24 : decide (Int32.ofNat (dr (m_nx x) 6) = 2) = false := by simpa using c24
            replace c24 := mt (i_eq (a := dr (m_nx x) 6) (b := 2) (by omega) (by omega)).mpr (of_decide_eq_false c24)
            exact cut1 (fp (fp (fp (fp (fp (fp F 69 29 (m_nx x)) 69 29 (m_nx (m_nx x))) 69 29 (m_nx (m_nx (m_nx x)))) 69 29 (m_nx (m_nx (m_nx (m_nx x))))) 71 (124 + (2 * (dr (m_nx (m_nx x)) (t_g T)) + (dr (m_nx (m_nx (m_nx x))) 2))) (h_s S (2 * (dr (m_nx (m_nx x)) (t_g T)) + (dr (m_nx (m_nx (m_nx x))) 2)) - (Int32.ofNat (dr (m_nx (m_nx (m_nx (m_nx x)))) 20 + 1)))) 71 (136 + (2 * (dr (m_nx (m_nx x)) (t_g T)) + (dr (m_nx (m_nx (m_nx x))) 2))) (h_h S (2 * (dr (m_nx (m_nx x)) (t_g T)) + (dr (m_nx (m_nx (m_nx x))) 2)) + (Int32.ofNat (dr (m_nx (m_nx (m_nx (m_nx x)))) 20 + 1)))) (RXS.st (RXS.st (RXS.sd (RXS.sd (RXS.sd (RXS.sd RXS.rf (Or.inr rfl)) (Or.inr rfl)) (Or.inr rfl)) (Or.inr rfl)) (by omega) (by omega)) (by omega) (by omega)) (by rw [dDs_y (T := T) (S := S) (d := 0) (by omega) (by omega)]; rw [try_y (d := 0) c20]; exact XS.do0 (XS.sd (a := 69) (k := 29) (v := (m_nx (m_nx (m_nx (m_nx x))))) (XS.sd (a := 69) (k := 29) (v := (m_nx (m_nx (m_nx x)))) (XS.sd (a := 69) (k := 29) (v := (m_nx (m_nx x))) (XS.sd (a := 69) (k := 29) (v := (m_nx x)) hS b3 (by decide)) b3 (by decide)) b3 (by decide)) b3 (by decide)) b3 (by omega)) (by rw [dDx_y (T := T) (S := S) (by omega)]; exact (fp_ne (Or.inl (by decide))).trans ((fp_ne (Or.inl (by decide))).trans (fp_eq))) (some (.int (Int32.ofNat (dr (m_nx x) 6)))) (some (.int (Int32.ofNat (dr (m_nx (m_nx x)) (t_g T))))) (some (.int (Int32.ofNat (2 * (dr (m_nx (m_nx x)) (t_g T)) + (dr (m_nx (m_nx (m_nx x))) 2))))) (some (.int (Int32.ofNat (dr (m_nx (m_nx (m_nx (m_nx x)))) 20 + 1))))
          · skip
            replace c24 : decide (Int32.ofNat (dr (m_nx x) 6) = 2) = true := by simpa using c24
            replace c24 := (i_eq (a := dr (m_nx x) 6) (b := 2) (by omega) (by omega)).mp (of_decide_eq_true c24)
            omega
        · skip
          replace c23 : decide (Int32.ofNat (dr (m_nx x) 6) = 1) = true := by simpa using c23
          replace c23 := (i_eq (a := dr (m_nx x) 6) (b := 1) (by omega) (by omega)).mp (of_decide_eq_true c23)
          omega
set_option maxRecDepth 100000 in
set_option maxHeartbeats 4000000 in
theorem g_draws {F : FW} {n : Nat} {T : St} {S : Sh} (hT : XT F T) (hS : XS F (t_m T) S) (hG : GW F) (hTB : TBB T) (hI : INV T S) (x : Int32) (hg : 0 < t_g T) (hn : n < 1000) : Pm Z_X11_draws [.ref 69, .int (Int32.ofNat n), .int x] F (fun r F' => r = some (.int (Int32.ofNat (h_d (m_drawn T (S, x) n).1 - h_d S))) ∧ RXS F F' ∧ XS F' (t_m T) (m_drawn T (S, x) n).1 ∧ F'.1 69 29 = (m_drawn T (S, x) n).2) := by
  refine Pm.of fun N => ?_
  obtain ⟨Q, hQ⟩ : ∃ Q : Option Value → FW → Prop, Q = (fun r F' => r = some (.int (Int32.ofNat (h_d (m_drawn T (S, x) n).1 - h_d S))) ∧ RXS F F' ∧ XS F' (t_m T) (m_drawn T (S, x) n).1 ∧ F'.1 69 29 = (m_drawn T (S, x) n).2) := ⟨_, rfl⟩
  rw [← hQ]
  have b3 := hT.mb
  have b4 := hT.nb
  have b5 := hT.gb
  have b6 := m_from_lt S
  have b7 := hS.db
  refine (show Pv (ab_T (L_X11_draws Z_X11_drawsDay)) N 0 [some (.ref 69), some (.int (Int32.ofNat n)), some (.int x), none] [] F Q from ?_)
  refine Pv.aload rfl rfl ?_
  refine Pv.iload rfl rfl ?_
  refine Pv.putI rfl rfl ?_
  refine Pv.lit rfl ?_
  refine Pv.istore (lo' := [some (.ref 69), some (.int (Int32.ofNat n)), some (.int x), some (.int 0)]) rfl rfl ?_
  refine Pv.lp (ι := Nat × FW) (lof := fun ⟨k, G⟩ => [some (.ref 69), some (.int (Int32.ofNat n)), some (.int x), some (.int (Int32.ofNat k))]) (Ff := fun ⟨k, G⟩ => G) (P := fun ⟨k, G⟩ => (k ≤ n) ∧ (RXS F G) ∧ (XS G (t_m T) (m_drawn T (S, x) k).1) ∧ (G.1 69 29 = (m_drawn T (S, x) k).2) ∧ (h_d (m_drawn T (S, x) k).1 = h_d S + k)) ?_ (0, (fp F 69 29 x)) (⟨Nat.zero_le _, (RXS.sd RXS.rf (Or.inr rfl)), (XS.sd hS b3 (by decide)), fp_eq, rfl⟩)
  rintro N1 hN2 ⟨k, G⟩ hi3 ih4
  refine (show Pv _ _ 7 [some (.ref 69), some (.int (Int32.ofNat n)), some (.int x), some (.int (Int32.ofNat k))] [] G Q from ?_)
  obtain ⟨hk, rx, hA, hx0, hkd⟩ := hi3
  have hx5 := RXS.T rx hT
  have hx6 := RXS.G rx hG
  have bD := XS.db hA
  refine Pv.iloadS rfl rfl ?_
  refine Pv.iload rfl rfl ?_
  refine Pv.icmp rfl (fun c7 => ?_) (fun c7 => ?_)
  · skip
    replace c7 := (i_le (a := n) (b := k) (by omega) (by omega)).mp (of_decide_eq_true c7)
    refine Pv.iload rfl rfl ?_
    exact Pv.ret rfl (by rw [hQ]; exact ⟨congrArg (fun z => some (Value.int (Int32.ofNat z))) (show k = h_d (m_drawn T (S, x) n).1 - h_d S by rw [show n = k by omega]; omega), rx, by rw [show n = k by omega]; exact hA, by rw [show n = k by omega]; exact hx0⟩)
  · skip
    replace c7 := mt (i_le (a := n) (b := k) (by omega) (by omega)).mpr (of_decide_eq_false c7)
    refine Pv.aload rfl rfl ?_
    refine Pv.getR (v := .ref 71) rfl rfl (GW.at (a := 69) (k := 6) (b := 71) hx6 (by decide)) ?_
    refine Pv.lit rfl ?_
    refine Pv.ald (z := Int32.ofNat (h_d (m_drawn T (S, x) k).1)) rfl (hA.d) ?_
    refine Pv.lit rfl ?_
    refine Pv.icmp rfl (fun c8 => ?_) (fun c8 => ?_)
    · skip
      replace c8 := (i_le (a := 400) (b := h_d (m_drawn T (S, x) k).1) (by omega) (by omega)).mp (of_decide_eq_true c8)
      refine Pv.iload rfl rfl ?_
      exact Pv.ret rfl (by rw [hQ]; exact ⟨congrArg (fun z => some (Value.int (Int32.ofNat z))) (show k = h_d (m_drawn T (S, x) n).1 - h_d S by rw [drawn_e (T := T) (q := (S, x)) (k := k) (n := n) (by omega) (by omega)]; omega), rx, by rw [drawn_e (T := T) (q := (S, x)) (k := k) (n := n) (by omega) (by omega)]; exact hA, by rw [drawn_e (T := T) (q := (S, x)) (k := k) (n := n) (by omega) (by omega)]; exact hx0⟩)
    · skip
      replace c8 := mt (i_le (a := 400) (b := h_d (m_drawn T (S, x) k).1) (by omega) (by omega)).mpr (of_decide_eq_false c8)
      refine Pv.aload rfl rfl ?_
      refine Pv.callV (as := [.ref 69]) (rest := []) rfl rfl rfl (g_drawsDay hx5 hA hx6 hTB (INV_drawn (q := (S, x)) hTB b5 hg hI k) hx0 hg (by omega)) ?_
      rintro _ G9 ⟨rfl, x10, hs11, y12⟩
      have rx13 := RXS.tr rx x10
      refine (show Pv _ _ 29 [some (.ref 69), some (.int (Int32.ofNat n)), some (.int x), some (.int (Int32.ofNat k))] [] G9 Q from ?_)
      refine Pv.iinc (y := Int32.ofNat (k + 1)) (lo' := [some (.ref 69), some (.int (Int32.ofNat n)), some (.int x), some (.int (Int32.ofNat (k + 1)))]) rfl rfl (i_add k 1) rfl ?_
      refine Pv.goto rfl ?_
      exact ih4 (k + 1, G9) (⟨by omega, rx13, by rw [drawn_1 (by omega)]; exact hs11, by rw [drawn_2 (by omega)]; exact y12, by rw [drawn_1 (by omega)]; rw [h_d_1]; omega⟩)
set_option maxRecDepth 100000 in
set_option maxHeartbeats 4000000 in
theorem q_odds {F : FW} {T : St} {S : Sh} (hT : XT F T) (hS : XS F (t_m T) S) (hG : GW F) (hTB : TBB T) (hI : INV T S) (x y z : Int32) : Pm Z_X11_odds [.ref 69, .int x, .int y, .int z] F (fun r F' => r = some (.int (a_odds T S x y z)) ∧ RDR F F') := by
  refine Pm.of fun N => ?_
  obtain ⟨Q, hQ⟩ : ∃ Q : Option Value → FW → Prop, Q = (fun r F' => r = some (.int (a_odds T S x y z)) ∧ RDR F F') := ⟨_, rfl⟩
  rw [← hQ]
  have b3 := hT.mb
  have b4 := hT.nb
  have b5 := hT.gb
  have b6 := m_from_lt S
  have b7 := hS.db
  have hSB := hI.sb
  refine (show Pv (ab_T (L_X11_odds Z_X11_isMan Z_X11_isIn Z_X11_tries Z_X11_draws Z_X11_back)) N 0 [some (.ref 69), some (.int x), some (.int y), some (.int z), none, none, none] [] F Q from ?_)
  refine Pv.aload rfl rfl ?_
  refine Pv.lit rfl ?_
  refine Pv.putI rfl rfl ?_
  refine Pv.aload rfl rfl ?_
  refine Pv.iload rfl rfl ?_
  refine Pv.callVI (as := [.ref 69, .int x]) (rest := []) (z := b2i (nd (t_m T) x).isSome) rfl rfl rfl (q_isMan (hT.fx (P := fun q => q = 69) (((FX.rf (P := fun q => q = 69))).fp rfl) (by decide)) (hG.fx (P := fun _ => True) (((FX.rf (P := fun _ => True))).fp trivial)) x) ?_
  refine Pv.if0 rfl (fun c1 => ?_) (fun c1 => ?_)
  · skip
    replace c1 := of_decide_eq_true c1
    replace c1 := b2z.mp c1
    refine Pv.lit rfl ?_
    exact Pv.ret rfl (by rw [hQ]; exact ⟨by unfold a_odds; rw [nd_f c1], (RDR.rf).fp (Or.inl rfl)⟩)
  · skip
    replace c1 := of_decide_eq_false c1
    replace c1 := b2n.mp c1
    obtain ⟨m, hm, hml, rfl⟩ := nd_t c1
    refine Pv.iload rfl rfl ?_
    refine Pv.lit rfl ?_
    refine Pv.lit rfl ?_
    refine Pv.callI (as := [.int y, .int 1, .int 30]) (rest := []) (z := b2i (decide (1 ≤ y) && decide (y ≤ 30))) rfl rfl rfl (q_isIn y 1 30) ?_
    refine Pv.if0 rfl (fun c2 => ?_) (fun c2 => ?_)
    · skip
      replace c2 := of_decide_eq_true c2
      replace c2 := b2z.mp c2
      refine Pv.lit rfl ?_
      exact Pv.ret rfl (by rw [hQ]; exact ⟨by unfold a_odds; rw [hm]; dsimp only; rw [ndr_f ((ndr_in (a := 1) (b := 30) (by omega) (by omega)).symm.trans c2)], (RDR.rf).fp (Or.inl rfl)⟩)
    · skip
      replace c2 := of_decide_eq_false c2
      replace c2 := b2n.mp c2
      obtain ⟨n, hn, hna, hnb, rfl⟩ := ndr_t ((ndr_in (a := 1) (b := 30) (by omega) (by omega)).symm.trans c2)
      refine Pv.aload rfl rfl ?_
      refine Pv.getR (v := .ref 71) rfl rfl (GW.at (a := 69) (k := 6) (b := 71) hG (by decide)) ?_
      refine Pv.lit rfl ?_
      refine Pv.ald (z := Int32.ofNat (t_g T)) rfl ((fp_ne (Or.inl (by decide))).trans (hT.g)) ?_
      refine Pv.if0 rfl (fun c3 => ?_) (fun c3 => ?_)
      · skip
        replace c3 : decide (Int32.ofNat (t_g T) = 0) = false := by simpa using c3
        replace c3 := mt (i_eq (a := t_g T) (b := 0) (by omega) (by omega)).mpr (of_decide_eq_false c3)
        refine Pv.aload rfl rfl ?_
        refine Pv.callV (as := [.ref 69]) (rest := []) rfl rfl rfl (g_tries (hG.fx (P := fun _ => True) (((FX.rf (P := fun _ => True))).fp trivial))) ?_
        rintro _ G4 ⟨rfl, x5, y6⟩
        have rt7 := RT.of ((RDR.rf).fp (Or.inl rfl)) x5 y6
        have hs8 := RT.ofS ((RDR.rf).fp (Or.inl rfl)) x5 b3 hS
        have hr0 := RDR.t78 ((RDR.rf).fp (Or.inl rfl)) x5
        have hx9 := RT.T rt7 hT
        have hx10 := RT.G rt7 hG
        refine (show Pv _ _ 38 [some (.ref 69), some (.int (Int32.ofNat m)), some (.int (Int32.ofNat n)), some (.int z), none, none, none] [] G4 Q from ?_)
        refine Pv.lit rfl ?_
        refine Pv.istore (lo' := [some (.ref 69), some (.int (Int32.ofNat m)), some (.int (Int32.ofNat n)), some (.int z), some (.int 0), none, none]) rfl rfl ?_
        refine Pv.lit rfl ?_
        refine Pv.istore (lo' := [some (.ref 69), some (.int (Int32.ofNat m)), some (.int (Int32.ofNat n)), some (.int z), some (.int 0), some (.int 0), none]) rfl rfl ?_
        refine Pv.lp (ι := Nat × Int32 × FW × (Option Value)) (lof := fun ⟨k, b, G, o11⟩ => [some (.ref 69), some (.int (Int32.ofNat m)), some (.int (Int32.ofNat n)), some (.int z), some (.int b), some (.int (Int32.ofNat k)), o11]) (Ff := fun ⟨k, b, G, o11⟩ => G) (P := fun ⟨k, b, G, o11⟩ => (k ≤ n) ∧ (RT F G) ∧ (XS G (t_m T) S) ∧ (b = m_cnt (fun i => decide (h_t S m < h_t (m_drawn T (S, z + Int32.ofNat i) 20).1 m)) k) ∧ (RDR F G)) ?_ (0, 0, G4, none) (⟨Nat.zero_le _, rt7, hs8, rfl, hr0⟩)
        rintro N12 hN13 ⟨k, b, G, o11⟩ hi14 ih15
        refine (show Pv _ _ 44 [some (.ref 69), some (.int (Int32.ofNat m)), some (.int (Int32.ofNat n)), some (.int z), some (.int b), some (.int (Int32.ofNat k)), o11] [] G Q from ?_)
        obtain ⟨hk, rt, hxs, hb, hr⟩ := hi14
        have hx16 := RT.T rt hT
        have hx17 := RT.G rt hG
        refine Pv.iloadS rfl rfl ?_
        refine Pv.iload rfl rfl ?_
        refine Pv.icmp rfl (fun c18 => ?_) (fun c18 => ?_)
        · skip
          replace c18 := (i_le (a := n) (b := k) (by omega) (by omega)).mp (of_decide_eq_true c18)
          refine Pv.iload rfl rfl ?_
          exact Pv.ret rfl (by rw [hQ]; exact ⟨by unfold a_odds; rw [hm]; dsimp only; rw [hn]; dsimp only; rw [if_neg (by omega), hb, show k = n by omega], hr⟩)
        · skip
          replace c18 := mt (i_le (a := n) (b := k) (by omega) (by omega)).mpr (of_decide_eq_false c18)
          refine Pv.aload rfl rfl ?_
          refine Pv.getR (v := .ref 71) rfl rfl (GW.at (a := 69) (k := 6) (b := 71) hx17 (by decide)) ?_
          refine Pv.lit rfl ?_
          refine Pv.iload rfl rfl ?_
          refine Pv.bin (z := Int32.ofNat (181 + m)) rfl (i_add 181 m) ?_
          refine Pv.ald (z := h_t S m) rfl (by rw [i_toNat (by omega)]; exact hxs.t _ (by omega)) ?_
          refine Pv.istore (lo' := [some (.ref 69), some (.int (Int32.ofNat m)), some (.int (Int32.ofNat n)), some (.int z), some (.int b), some (.int (Int32.ofNat k)), some (.int (h_t S m))]) rfl rfl ?_
          refine Pv.aload rfl rfl ?_
          refine Pv.lit rfl ?_
          refine Pv.iload rfl rfl ?_
          refine Pv.iload rfl rfl ?_
          refine Pv.bin (z := z + (Int32.ofNat k)) rfl (rfl) ?_
          refine Pv.callV (as := [.ref 69, .int 20, .int (z + (Int32.ofNat k))]) (rest := []) rfl rfl rfl (g_draws (n := 20) hx16 hxs hx17 hTB hI (z + (Int32.ofNat k)) (by omega) (by omega)) ?_
          rintro _ G19 ⟨rfl, x20, hs21, y22⟩
          have rt23 := RT.rxs rt x20
          have hx24 := RT.T rt23 hT
          have hx25 := RT.G rt23 hG
          have bD26 := XS.db hs21
          refine (show Pv _ _ 72 [some (.ref 69), some (.int (Int32.ofNat m)), some (.int (Int32.ofNat n)), some (.int z), some (.int b), some (.int (Int32.ofNat k)), some (.int (h_t S m))] [.int (Int32.ofNat (h_d (m_drawn T (S, z + (Int32.ofNat k)) 20).1 - h_d S))] G19 Q from ?_)
          refine Pv.pop rfl ?_
          refine Pv.iload rfl rfl ?_
          refine Pv.aload rfl rfl ?_
          refine Pv.getR (v := .ref 71) rfl rfl (GW.at (a := 69) (k := 6) (b := 71) hx25 (by decide)) ?_
          refine Pv.lit rfl ?_
          refine Pv.iload rfl rfl ?_
          refine Pv.bin (z := Int32.ofNat (181 + m)) rfl (i_add 181 m) ?_
          refine Pv.ald (z := h_t (m_drawn T (S, z + (Int32.ofNat k)) 20).1 m) rfl (by rw [i_toNat (by omega)]; exact hs21.t _ (by omega)) ?_
          refine Pv.iload rfl rfl ?_
          refine Pv.icmp rfl (fun c27 => ?_) (fun c27 => ?_)
          · skip
            replace c27 := of_decide_eq_true c27
            refine Pv.lit rfl ?_
            refine Pv.bin (z := b + 0) rfl (rfl) ?_
            refine Pv.istore (lo' := [some (.ref 69), some (.int (Int32.ofNat m)), some (.int (Int32.ofNat n)), some (.int z), some (.int (b + 0)), some (.int (Int32.ofNat k)), some (.int (h_t S m))]) rfl rfl ?_
            refine Pv.aload rfl rfl ?_
            refine Pv.callV (as := [.ref 69]) (rest := []) rfl rfl rfl (g_back hx25) ?_
            rintro _ G28 ⟨rfl, x29, y30, z31⟩
            have rd32 := RT.bk rt23 x29 y30 z31
            have rt33 := RT.bkT rt23 x29 y30 z31
            refine (show Pv _ _ 102 [some (.ref 69), some (.int (Int32.ofNat m)), some (.int (Int32.ofNat n)), some (.int z), some (.int (b + 0)), some (.int (Int32.ofNat k)), some (.int (h_t S m))] [] G28 Q from ?_)
            refine Pv.iinc (y := Int32.ofNat (k + 1)) (lo' := [some (.ref 69), some (.int (Int32.ofNat m)), some (.int (Int32.ofNat n)), some (.int z), some (.int (b + 0)), some (.int (Int32.ofNat (k + 1))), some (.int (h_t S m))]) rfl rfl (i_add k 1) rfl ?_
            refine Pv.goto rfl ?_
            exact ih15 (k + 1, b + 0, G28, (some (.int (h_t S m)))) (⟨by omega, rt33, (RDR.S rd32 b3 hS), by rw [hb]; exact (Int32.add_zero _).trans (if_neg (fun q => absurd (of_decide_eq_true q) (Int32.not_lt.mpr c27))).symm, rd32⟩)
          · skip
            replace c27 := of_decide_eq_false c27
            refine Pv.lit rfl ?_
            refine Pv.goto rfl ?_
            refine Pv.bin (z := b + 1) rfl (rfl) ?_
            refine Pv.istore (lo' := [some (.ref 69), some (.int (Int32.ofNat m)), some (.int (Int32.ofNat n)), some (.int z), some (.int (b + 1)), some (.int (Int32.ofNat k)), some (.int (h_t S m))]) rfl rfl ?_
            refine Pv.aload rfl rfl ?_
            refine Pv.callV (as := [.ref 69]) (rest := []) rfl rfl rfl (g_back hx25) ?_
            rintro _ G34 ⟨rfl, x35, y36, z37⟩
            have rd38 := RT.bk rt23 x35 y36 z37
            have rt39 := RT.bkT rt23 x35 y36 z37
            refine (show Pv _ _ 102 [some (.ref 69), some (.int (Int32.ofNat m)), some (.int (Int32.ofNat n)), some (.int z), some (.int (b + 1)), some (.int (Int32.ofNat k)), some (.int (h_t S m))] [] G34 Q from ?_)
            refine Pv.iinc (y := Int32.ofNat (k + 1)) (lo' := [some (.ref 69), some (.int (Int32.ofNat m)), some (.int (Int32.ofNat n)), some (.int z), some (.int (b + 1)), some (.int (Int32.ofNat (k + 1))), some (.int (h_t S m))]) rfl rfl (i_add k 1) rfl ?_
            refine Pv.goto rfl ?_
            exact ih15 (k + 1, b + 1, G34, (some (.int (h_t S m)))) (⟨by omega, rt39, (RDR.S rd38 b3 hS), by rw [hb]; exact (if_pos (decide_eq_true (Int32.not_le.mp c27))).symm, rd38⟩)
      · skip
        replace c3 : decide (Int32.ofNat (t_g T) = 0) = true := by simpa using c3
        replace c3 := (i_eq (a := t_g T) (b := 0) (by omega) (by omega)).mp (of_decide_eq_true c3)
        refine Pv.lit rfl ?_
        exact Pv.ret rfl (by rw [hQ]; exact ⟨by unfold a_odds; rw [hm]; dsimp only; rw [hn]; dsimp only; rw [if_pos (by omega)], (RDR.rf).fp (Or.inl rfl)⟩)
set_option maxRecDepth 100000 in
set_option maxHeartbeats 4000000 in
theorem g_keep46 {F : FW} {m n : Nat} {S : Sh} {H : Nat → Sh} (hm : m ≤ 8) (hS : XS F m S) (hG : GW F) (hH : HSX F m n H) (hn : n < 8) (o : Option Value) (N : Nat) : Pv (ab_T L_X11_keep) N 46 [some (.ref 69), o] [] F (fun r F' => r = none ∧ FX (fun q => q = 77 ∨ q = 69) F F' ∧ (∀ j, F'.1 71 j = F.1 71 j) ∧ (∀ j, j ≠ 25 → F'.1 69 j = F.1 69 j) ∧ HSX F' m (n + 1) (fun j => if j < n then H j else S)) := by
  obtain ⟨Q, hQ⟩ : ∃ Q : Option Value → FW → Prop, Q = (fun r F' => r = none ∧ FX (fun q => q = 77 ∨ q = 69) F F' ∧ (∀ j, F'.1 71 j = F.1 71 j) ∧ (∀ j, j ≠ 25 → F'.1 69 j = F.1 69 j) ∧ HSX F' m (n + 1) (fun j => if j < n then H j else S)) := ⟨_, rfl⟩
  rw [← hQ]
  refine (show Pv (ab_T L_X11_keep) N 46 [some (.ref 69), o] [] F Q from ?_)
  refine Pv.lit rfl ?_
  refine Pv.istore (lo' := [some (.ref 69), some (.int 0)]) rfl rfl ?_
  refine Pv.lp (ι := Nat × FW) (lof := fun ⟨k, G⟩ => [some (.ref 69), some (.int (Int32.ofNat k))]) (Ff := fun ⟨k, G⟩ => G) (P := fun ⟨k, G⟩ => (k ≤ 133) ∧ (FX (fun q => q = 77 ∨ q = 69) F G) ∧ (G.1 69 25 = Int32.ofNat n) ∧ (∀ j, j < k → G.1 77 (133 * n + j) = F.1 71 (120 + j)) ∧ (∀ j, j < 133 * n → G.1 77 j = F.1 77 j) ∧ (∀ j, G.1 69 j = F.1 69 j)) ?_ (0, F) (⟨Nat.zero_le _, FX.rf, hH.1, fun j hj => absurd hj (Nat.not_lt_zero j), fun _ _ => rfl, fun _ => rfl⟩)
  rintro N1 hN2 ⟨k, G⟩ hi3 ih4
  refine (show Pv _ _ 48 [some (.ref 69), some (.int (Int32.ofNat k))] [] G Q from ?_)
  obtain ⟨hk, hxG, h25, hA, hB, hC⟩ := hi3
  have hx5 := hG.fx (P := fun q => q = 77 ∨ q = 69) hxG
  refine Pv.iloadS rfl rfl ?_
  refine Pv.lit rfl ?_
  refine Pv.icmp rfl (fun c6 => ?_) (fun c6 => ?_)
  · skip
    replace c6 := (i_le (a := 133) (b := k) (by omega) (by omega)).mp (of_decide_eq_true c6)
    refine Pv.aload rfl rfl ?_
    refine Pv.dup rfl ?_
    refine Pv.getI (z := Int32.ofNat n) rfl rfl (h25) ?_
    refine Pv.lit rfl ?_
    refine Pv.bin (z := Int32.ofNat (n + 1)) rfl (i_add n 1) ?_
    refine Pv.putI rfl rfl ?_
    refine Pv.vret rfl ?_
    rw [hQ]
    refine ⟨rfl, hxG.fp (Or.inr rfl), fun j => (fp_ne (Or.inl (by decide))).trans (hxG.1 71 j (by decide)), fun j c => (fp_ne (Or.inr c)).trans (hC j), fp_eq, by omega, fun j hj => ?_⟩
    dsimp only
    rcases Nat.lt_or_ge j n with q | q
    · rw [if_pos q]
      exact HSX.row hm (hH.2.2 j q) fun i hi => (fp_ne (Or.inl (by decide))).trans (hB _ (by omega))
    · rw [if_neg (by omega)]
      obtain rfl : j = n := by omega
      exact HSX.put hm hS fun i hi => (fp_ne (Or.inl (by decide))).trans (hA i (by omega))
  · skip
    replace c6 := mt (i_le (a := 133) (b := k) (by omega) (by omega)).mpr (of_decide_eq_false c6)
    refine Pv.aload rfl rfl ?_
    refine Pv.getR (v := .ref 77) rfl rfl (GW.at (a := 69) (k := 23) (b := 77) hx5 (by decide)) ?_
    refine Pv.lit rfl ?_
    refine Pv.aload rfl rfl ?_
    refine Pv.getI (z := Int32.ofNat n) rfl rfl (h25) ?_
    refine Pv.bin (z := Int32.ofNat (133 * n)) rfl (i_mul 133 n) ?_
    refine Pv.iload rfl rfl ?_
    refine Pv.bin (z := Int32.ofNat ((133 * n) + k)) rfl (i_add (133 * n) k) ?_
    refine Pv.aload rfl rfl ?_
    refine Pv.getR (v := .ref 71) rfl rfl (GW.at (a := 69) (k := 6) (b := 71) hx5 (by decide)) ?_
    refine Pv.lit rfl ?_
    refine Pv.iload rfl rfl ?_
    refine Pv.bin (z := Int32.ofNat (120 + k)) rfl (i_add 120 k) ?_
    refine Pv.ald (z := F.1 71 (120 + k)) rfl (by rw [i_toNat (by omega)]; exact hxG.1 71 _ (by decide)) ?_
    refine Pv.astk (k := (133 * n) + k) (z := F.1 71 (120 + k)) rfl (i_toNat (by omega)) (rfl) ?_
    refine Pv.iinc (y := Int32.ofNat (k + 1)) (lo' := [some (.ref 69), some (.int (Int32.ofNat (k + 1)))]) rfl rfl (i_add k 1) rfl ?_
    refine Pv.goto rfl ?_
    exact ih4 (k + 1, (fp G 77 ((133 * n) + k) (F.1 71 (120 + k)))) (⟨by omega, (hxG).fp (show 77 = 77 ∨ 77 = 69 by omega), (fp_ne (Or.inl (by decide))).trans (h25), fun j hj => Or.elim (Classical.em (j = k)) (fun e => by rw [e]; exact fp_eq) (fun e => (fp_ne (Or.inr (by omega))).trans (hA j (by omega))), fun j hj => (fp_ne (Or.inr (by omega))).trans (hB j hj), fun j => (fp_ne (Or.inl (by decide))).trans (hC j)⟩)
set_option maxRecDepth 100000 in
set_option maxHeartbeats 4000000 in
theorem g_keep {F : FW} {m n : Nat} {S : Sh} {H : Nat → Sh} (hm : m ≤ 8) (hS : XS F m S) (hG : GW F) (hH : HSX F m n H) : Pm Z_X11_keep [.ref 69] F (fun r F' => r = none ∧ FX (fun q => q = 77 ∨ q = 69) F F' ∧ (∀ j, F'.1 71 j = F.1 71 j) ∧ (∀ j, j ≠ 25 → F'.1 69 j = F.1 69 j) ∧ HSX F' m (m_kn n) (m_kH n H S)) := by
  refine Pm.of fun N => ?_
  obtain ⟨Q, hQ⟩ : ∃ Q : Option Value → FW → Prop, Q = (fun r F' => r = none ∧ FX (fun q => q = 77 ∨ q = 69) F F' ∧ (∀ j, F'.1 71 j = F.1 71 j) ∧ (∀ j, j ≠ 25 → F'.1 69 j = F.1 69 j) ∧ HSX F' m (m_kn n) (m_kH n H S)) := ⟨_, rfl⟩
  rw [← hQ]
  have h8 := hH.2.1
  refine (show Pv (ab_T L_X11_keep) N 0 [some (.ref 69), none] [] F Q from ?_)
  refine Pv.aload rfl rfl ?_
  refine Pv.getI (z := Int32.ofNat n) rfl rfl (hH.1) ?_
  refine Pv.lit rfl ?_
  refine Pv.icmp rfl (fun c1 => ?_) (fun c1 => ?_)
  · skip
    replace c1 : decide (Int32.ofNat n = 8) = false := by simpa using c1
    replace c1 := mt (i_eq (a := n) (b := 8) (by omega) (by omega)).mpr (of_decide_eq_false c1)
    refine (g_keep46 hm hS hG hH (by omega) none N).imp ?_
    rintro r F' ⟨e, x1, x2, x3, x4⟩
    rw [hQ]
    refine ⟨e, x1, x2, x3, ?_⟩
    unfold m_kn m_kH
    rw [if_pos (by omega)]
    rw [show (fun j => if n < 8 then (if j < n then H j else S) else if j < 7 then H (j + 1) else S) = fun j => if j < n then H j else S from funext fun j => if_pos (by omega)]
    exact x4
  · skip
    replace c1 : decide (Int32.ofNat n = 8) = true := by simpa using c1
    replace c1 := (i_eq (a := n) (b := 8) (by omega) (by omega)).mp (of_decide_eq_true c1)
    obtain rfl : n = 8 := by omega
    refine Pv.lit rfl ?_
    refine Pv.istore (lo' := [some (.ref 69), some (.int 0)]) rfl rfl ?_
    refine Pv.lp (ι := Nat × FW) (lof := fun ⟨k, G⟩ => [some (.ref 69), some (.int (Int32.ofNat k))]) (Ff := fun ⟨k, G⟩ => G) (P := fun ⟨k, G⟩ => (k ≤ 931) ∧ (FX (fun q => q = 77 ∨ q = 69) F G) ∧ (G.1 69 25 = Int32.ofNat 8) ∧ (∀ j, j < k → G.1 77 j = F.1 77 (j + 133)) ∧ (∀ j, k ≤ j → G.1 77 j = F.1 77 j) ∧ (∀ j, G.1 69 j = F.1 69 j)) ?_ (0, F) (⟨Nat.zero_le _, FX.rf, hH.1, fun j hj => absurd hj (Nat.not_lt_zero j), fun _ _ => rfl, fun _ => rfl⟩)
    rintro N2 hN3 ⟨k, G⟩ hi4 ih5
    refine (show Pv _ _ 11 [some (.ref 69), some (.int (Int32.ofNat k))] [] G Q from ?_)
    obtain ⟨hk, hxG, h25, hA, hB, hC⟩ := hi4
    have hx6 := hG.fx (P := fun q => q = 77 ∨ q = 69) hxG
    refine Pv.iloadS rfl rfl ?_
    refine Pv.lit rfl ?_
    refine Pv.icmp rfl (fun c7 => ?_) (fun c7 => ?_)
    · skip
      replace c7 := (i_le (a := 931) (b := k) (by omega) (by omega)).mp (of_decide_eq_true c7)
      refine Pv.aload rfl rfl ?_
      refine Pv.lit rfl ?_
      refine Pv.putI rfl rfl ?_
      have xg : FX (fun q => q = 77 ∨ q = 69) F (fp G 69 25 7) := hxG.fp (Or.inr rfl)
      have hHG : HSX (fp G 69 25 7) m 7 (fun j => H (j + 1)) := ⟨fp_eq, by omega, fun j hj => HSX.row hm (hH.2.2 (j + 1) (by omega)) fun i hi => (fp_ne (Or.inl (by decide))).trans ((hA _ (by omega)).trans (congrArg (F.1 77) (by omega)))⟩
      refine ((g_keep46 hm (hS.fx hm xg (by decide)) (hG.fx xg) hHG (by omega) _ N2).imp ?_)
      rintro r F' ⟨e, x1, x2, x3, x4⟩
      rw [hQ]
      exact ⟨e, xg.tr x1, fun j => (x2 j).trans (xg.1 71 j (by decide)), fun j c => (x3 j c).trans ((fp_ne (Or.inr c)).trans (hC j)), x4⟩
    · skip
      replace c7 := mt (i_le (a := 931) (b := k) (by omega) (by omega)).mpr (of_decide_eq_false c7)
      refine Pv.aload rfl rfl ?_
      refine Pv.getR (v := .ref 77) rfl rfl (GW.at (a := 69) (k := 23) (b := 77) hx6 (by decide)) ?_
      refine Pv.iload rfl rfl ?_
      refine Pv.aload rfl rfl ?_
      refine Pv.getR (v := .ref 77) rfl rfl (GW.at (a := 69) (k := 23) (b := 77) hx6 (by decide)) ?_
      refine Pv.iload rfl rfl ?_
      refine Pv.lit rfl ?_
      refine Pv.bin (z := Int32.ofNat (k + 133)) rfl (i_add k 133) ?_
      refine Pv.ald (z := F.1 77 (k + 133)) rfl (by rw [i_toNat (by omega)]; exact hB _ (by omega)) ?_
      refine Pv.astk (k := k) (z := F.1 77 (k + 133)) rfl (i_toNat (by omega)) (rfl) ?_
      refine Pv.iinc (y := Int32.ofNat (k + 1)) (lo' := [some (.ref 69), some (.int (Int32.ofNat (k + 1)))]) rfl rfl (i_add k 1) rfl ?_
      refine Pv.goto rfl ?_
      exact ih5 (k + 1, (fp G 77 k (F.1 77 (k + 133)))) (⟨by omega, (hxG).fp (show 77 = 77 ∨ 77 = 69 by omega), (fp_ne (Or.inl (by decide))).trans (h25), fun j hj => Or.elim (Classical.em (j = k)) (fun e => by rw [e]; exact fp_eq) (fun e => (fp_ne (Or.inr e)).trans (hA j (by omega))), fun j hj => (fp_ne (Or.inr (by omega))).trans (hB j (by omega)), fun j => (fp_ne (Or.inl (by decide))).trans (hC j)⟩)
set_option maxRecDepth 100000 in
set_option maxHeartbeats 4000000 in
theorem q_undo {F : FW} {T : St} {S : Sh} (hT : XT F T) (hS : XS F (t_m T) S) (hG : GW F) {n : Nat} {H : Nat → Sh} (hH : HSX F (t_m T) n H) : Pm Z_X11_undo [.ref 69] F (fun r F' => r = some (.int (if n = 0 then -1 else Int32.ofNat (n - 1))) ∧ RKX F F' ∧ HSX F' (t_m T) (n - 1) H ∧ XS F' (t_m T) (if n = 0 then S else H (n - 1))) := by
  refine Pm.of fun N => ?_
  obtain ⟨Q, hQ⟩ : ∃ Q : Option Value → FW → Prop, Q = (fun r F' => r = some (.int (if n = 0 then -1 else Int32.ofNat (n - 1))) ∧ RKX F F' ∧ HSX F' (t_m T) (n - 1) H ∧ XS F' (t_m T) (if n = 0 then S else H (n - 1))) := ⟨_, rfl⟩
  rw [← hQ]
  have b3 := hT.mb
  have b4 := hT.nb
  have b5 := hT.gb
  have b6 := m_from_lt S
  have b7 := hS.db
  have h8 := hH.2.1
  refine (show Pv (ab_T L_X11_undo) N 0 [some (.ref 69), none] [] F Q from ?_)
  refine Pv.aload rfl rfl ?_
  refine Pv.lit rfl ?_
  refine Pv.putI rfl rfl ?_
  refine Pv.aload rfl rfl ?_
  refine Pv.getI (z := Int32.ofNat n) rfl rfl ((fp_ne (Or.inr (by decide))).trans (hH.1)) ?_
  refine Pv.if0 rfl (fun c1 => ?_) (fun c1 => ?_)
  · skip
    replace c1 : decide (Int32.ofNat n = 0) = false := by simpa using c1
    replace c1 := mt (i_eq (a := n) (b := 0) (by omega) (by omega)).mpr (of_decide_eq_false c1)
    refine Pv.aload rfl rfl ?_
    refine Pv.dup rfl ?_
    refine Pv.getI (z := Int32.ofNat n) rfl rfl ((fp_ne (Or.inr (by decide))).trans (hH.1)) ?_
    refine Pv.lit rfl ?_
    refine Pv.bin (z := Int32.ofNat (n - 1)) rfl (i_subN (a := n) (b := 1) (by omega)) ?_
    refine Pv.putI rfl rfl ?_
    refine Pv.lit rfl ?_
    refine Pv.istore (lo' := [some (.ref 69), some (.int 0)]) rfl rfl ?_
    refine Pv.lp (ι := Nat × FW) (lof := fun ⟨k, G⟩ => [some (.ref 69), some (.int (Int32.ofNat k))]) (Ff := fun ⟨k, G⟩ => G) (P := fun ⟨k, G⟩ => (k ≤ 133) ∧ (FX (fun q => q = 69 ∨ q = 71) F G) ∧ (G.1 69 25 = Int32.ofNat (n - 1)) ∧ (∀ j, j < k → G.1 71 (120 + j) = F.1 77 (133 * (n - 1) + j)) ∧ (∀ j, j < 120 ∨ 253 ≤ j → G.1 71 j = F.1 71 j) ∧ (∀ j, j ≠ 0 → j ≠ 25 → G.1 69 j = F.1 69 j)) ?_ (0, (fp (fp F 69 0 0) 69 25 (Int32.ofNat (n - 1)))) (⟨Nat.zero_le _, (((FX.rf (P := fun q => q = 69 ∨ q = 71))).fp (Or.inl rfl)).fp (Or.inl rfl), fp_eq, fun j hj => absurd hj (Nat.not_lt_zero j), fun j _ => (fp_ne (Or.inl (by decide))).trans (fp_ne (Or.inl (by decide))), fun j h1 h2 => (fp_ne (Or.inr h2)).trans (fp_ne (Or.inr h1))⟩)
    rintro N2 hN3 ⟨k, G⟩ hi4 ih5
    refine (show Pv _ _ 26 [some (.ref 69), some (.int (Int32.ofNat k))] [] G Q from ?_)
    obtain ⟨hk, hxG, h25, hA, hB, hC⟩ := hi4
    have hx6 := hG.fx hxG
    refine Pv.iloadS rfl rfl ?_
    refine Pv.lit rfl ?_
    refine Pv.icmp rfl (fun c7 => ?_) (fun c7 => ?_)
    · skip
      replace c7 := (i_le (a := 133) (b := k) (by omega) (by omega)).mp (of_decide_eq_true c7)
      refine Pv.aload rfl rfl ?_
      refine Pv.getI (z := Int32.ofNat (n - 1)) rfl rfl (h25) ?_
      exact Pv.ret rfl (by rw [hQ]; exact ⟨by rw [if_neg (by omega)], ⟨hxG.wd (fun q c => c.elim Or.inl (fun e => Or.inr (Or.inl e))), fun j h1 h2 h3 h4 => hC j h1 h3, hB⟩, ⟨h25, by have := hH.2.1; omega, fun j hj => HSX.row b3 (hH.2.2 j (by omega)) fun i _ => hxG.1 77 _ (by decide)⟩, by rw [if_neg (by omega)]; exact HSX.get hH b3 (by omega) (fun q h1 h2 => (congrArg (G.1 71) (by omega)).trans ((hA (q - 120) (by omega)).trans (congrArg (F.1 77) (by omega))))⟩)
    · skip
      replace c7 := mt (i_le (a := 133) (b := k) (by omega) (by omega)).mpr (of_decide_eq_false c7)
      refine Pv.aload rfl rfl ?_
      refine Pv.getR (v := .ref 71) rfl rfl (GW.at (a := 69) (k := 6) (b := 71) hx6 (by decide)) ?_
      refine Pv.lit rfl ?_
      refine Pv.iload rfl rfl ?_
      refine Pv.bin (z := Int32.ofNat (120 + k)) rfl (i_add 120 k) ?_
      refine Pv.aload rfl rfl ?_
      refine Pv.getR (v := .ref 77) rfl rfl (GW.at (a := 69) (k := 23) (b := 77) hx6 (by decide)) ?_
      refine Pv.lit rfl ?_
      refine Pv.aload rfl rfl ?_
      refine Pv.getI (z := Int32.ofNat (n - 1)) rfl rfl (h25) ?_
      refine Pv.bin (z := Int32.ofNat (133 * (n - 1))) rfl (i_mul 133 (n - 1)) ?_
      refine Pv.iload rfl rfl ?_
      refine Pv.bin (z := Int32.ofNat ((133 * (n - 1)) + k)) rfl (i_add (133 * (n - 1)) k) ?_
      refine Pv.ald (z := F.1 77 ((133 * (n - 1)) + k)) rfl (by rw [i_toNat (by omega)]; exact hxG.1 77 _ (by decide)) ?_
      refine Pv.astk (k := 120 + k) (z := F.1 77 ((133 * (n - 1)) + k)) rfl (i_toNat (by omega)) (rfl) ?_
      refine Pv.iinc (y := Int32.ofNat (k + 1)) (lo' := [some (.ref 69), some (.int (Int32.ofNat (k + 1)))]) rfl rfl (i_add k 1) rfl ?_
      refine Pv.goto rfl ?_
      exact ih5 (k + 1, (fp G 71 (120 + k) (F.1 77 ((133 * (n - 1)) + k)))) (⟨by omega, hxG.fp (Or.inr rfl), (fp_ne (Or.inl (by decide))).trans h25, fun j hj => Or.elim (Classical.em (j = k)) (fun e => by rw [e]; exact fp_eq) (fun e => (fp_ne (Or.inr (by omega))).trans (hA j (by omega))), fun j hj => (fp_ne (Or.inr (by omega))).trans (hB j hj), fun j h1 h2 => (fp_ne (Or.inl (by decide))).trans (hC j h1 h2)⟩)
  · skip
    replace c1 : decide (Int32.ofNat n = 0) = true := by simpa using c1
    replace c1 := (i_eq (a := n) (b := 0) (by omega) (by omega)).mp (of_decide_eq_true c1)
    refine Pv.lit rfl ?_
    exact Pv.ret rfl (by rw [hQ]; exact ⟨by rw [if_pos (by omega)], RKX.fp RKX.rf (Or.inl rfl), HSX.same (by rw [show n - 1 = n by omega]; exact hH) b3 (fp_ne (Or.inr (by decide))) (fun k => fp_ne (Or.inl (by decide))), by rw [if_pos (by omega)]; exact XS.sd hS b3 (by decide)⟩)
set_option maxRecDepth 100000 in
set_option maxHeartbeats 4000000 in
theorem q_hoard {F : FW} {T : St} {S : Sh} (hT : XT F T) (hS : XS F (t_m T) S) (hG : GW F) {n : Nat} {H : Nat → Sh} (hH : HSX F (t_m T) n H) (x y z : Int32) : Pm Z_X11_hoard [.ref 69, .int x, .int y, .int z] F (fun r F' => r = some (.int (a_act 0 T S x y z)) ∧ RKX F F' ∧ HKX (decide (a_act 0 T S x y z = 0)) F' (t_m T) n H S ∧ XS F' (t_m T) (m_act 0 T S x y z)) := by
  refine Pm.of fun N => ?_
  obtain ⟨Q, hQ⟩ : ∃ Q : Option Value → FW → Prop, Q = (fun r F' => r = some (.int (a_act 0 T S x y z)) ∧ RKX F F' ∧ HKX (decide (a_act 0 T S x y z = 0)) F' (t_m T) n H S ∧ XS F' (t_m T) (m_act 0 T S x y z)) := ⟨_, rfl⟩
  rw [← hQ]
  have b3 := hT.mb
  have b4 := hT.nb
  have b5 := hT.gb
  have b6 := m_from_lt S
  have b7 := hS.db
  refine (show Pv (ab_T (L_X11_hoard Z_X11_isPlace Z_X11_isIn Z_X11_cell Z_X11_whyHoard Z_X11_keep Z_X11_hoards)) N 0 [some (.ref 69), some (.int x), some (.int y), some (.int z)] [] F Q from ?_)
  refine Pv.aload rfl rfl ?_
  refine Pv.lit rfl ?_
  refine Pv.putI rfl rfl ?_
  refine Pv.aload rfl rfl ?_
  refine Pv.iload rfl rfl ?_
  refine Pv.iload rfl rfl ?_
  refine Pv.callVI (as := [.ref 69, .int x, .int y]) (rest := []) (z := b2i ((nd (t_g T) x).isSome && (nd 2 y).isSome)) rfl rfl rfl (q_isPlace (hT.fx (P := fun q => q = 69) (((FX.rf (P := fun q => q = 69))).fp rfl) (by decide)) (hG.fx (P := fun _ => True) (((FX.rf (P := fun _ => True))).fp trivial)) x y) ?_
  refine Pv.if0 rfl (fun c1 => ?_) (fun c1 => ?_)
  · skip
    replace c1 := of_decide_eq_true c1
    replace c1 := b2z.mp c1
    refine Pv.lit rfl ?_
    have e : a_act 0 T S x y z = -1 := by unfold a_act; rw [aGS_f c1]
    exact Pv.ret rfl (by rw [hQ]; exact ⟨by rw [e], (RKX.fp RKX.rf (Or.inl rfl)), HKX.f (HSX.same hH b3 (fp_ne (Or.inr (by decide))) (fun k => fp_ne (Or.inl (by decide)))) (by rw [e]; rfl), by rw [m_act_f c1]; exact XS.sd hS b3 (by decide)⟩)
  · skip
    replace c1 := of_decide_eq_false c1
    replace c1 := b2n.mp c1
    obtain ⟨g, s, hg, hs, hgl, hsl, rfl, rfl⟩ := gs_t c1
    refine Pv.iload rfl rfl ?_
    refine Pv.lit rfl ?_
    refine Pv.lit rfl ?_
    refine Pv.callI (as := [.int z, .int 1, .int 250]) (rest := []) (z := b2i (decide (1 ≤ z) && decide (z ≤ 250))) rfl rfl rfl (q_isIn z 1 250) ?_
    refine Pv.if0 rfl (fun c2 => ?_) (fun c2 => ?_)
    · skip
      replace c2 : decide (b2i (decide (1 ≤ z) && decide (z ≤ 250)) = 0) = false := by simpa using c2
      replace c2 := of_decide_eq_false c2
      replace c2 := b2n.mp c2
      obtain ⟨k, hn, hna, hnb, rfl⟩ := ndr_t ((ndr_in (a := 1) (b := 250) (by omega) (by omega)).symm.trans c2)
      refine Pv.aload rfl rfl ?_
      refine Pv.iload rfl rfl ?_
      refine Pv.iload rfl rfl ?_
      refine Pv.callI (as := [.int (Int32.ofNat g), .int (Int32.ofNat s)]) (rest := [.ref 69]) (z := Int32.ofNat (2 * g + s)) rfl rfl rfl (g_cell (g := g) (s := s)) ?_
      refine Pv.iload rfl rfl ?_
      refine Pv.callVI (as := [.ref 69, .int (Int32.ofNat (2 * g + s)), .int (Int32.ofNat k)]) (rest := []) (z := m_why 0 S (2 * g + s) (Int32.ofNat k)) rfl rfl rfl (g_whyHoard (k := 2 * g + s) (n := Int32.ofNat k) (XS.sd (a := 69) (k := 0) (v := 0) hS b3 (by decide)) (GW.fpp (a := 69) (k := 0) (v := 0) hG) (by omega)) ?_
      refine Pv.if0 rfl (fun c3 => ?_) (fun c3 => ?_)
      · skip
        replace c3 := of_decide_eq_true c3
        refine Pv.aload rfl rfl ?_
        refine Pv.callV (as := [.ref 69]) (rest := []) rfl rfl rfl (g_keep b3 (XS.sd (a := 69) (k := 0) (v := 0) hS b3 (by decide)) (GW.fpp (a := 69) (k := 0) (v := 0) hG) (HSX.same hH b3 (fp_ne (Or.inr (by decide))) (fun k => fp_ne (Or.inl (by decide))))) ?_
        rintro _ G4 ⟨rfl, x5, x6, x7, hk8⟩
        have rk9 := RKX.kp (RKX.fp RKX.rf (Or.inl rfl)) x5 x6 x7
        have hs10 := XS.of (XS.sd (a := 69) (k := 0) (v := 0) hS b3 (by decide)) b3 (fun k _ _ => x6 k)
        have hx11 := RKX.T rk9 hT
        have hx12 := RKX.G rk9 hG
        refine (show Pv _ _ 46 [some (.ref 69), some (.int (Int32.ofNat g)), some (.int (Int32.ofNat s)), some (.int (Int32.ofNat k))] [] G4 Q from ?_)
        refine Pv.aload rfl rfl ?_
        refine Pv.iload rfl rfl ?_
        refine Pv.iload rfl rfl ?_
        refine Pv.callI (as := [.int (Int32.ofNat g), .int (Int32.ofNat s)]) (rest := [.ref 69]) (z := Int32.ofNat (2 * g + s)) rfl rfl rfl (g_cell (g := g) (s := s)) ?_
        refine Pv.iload rfl rfl ?_
        refine Pv.callVU (as := [.ref 69, .int (Int32.ofNat (2 * g + s)), .int (Int32.ofNat k)]) (rest := []) rfl rfl rfl (g_hoards (k := 2 * g + s) (n := Int32.ofNat k) hs10 hx12 (by omega)) ?_
        refine Pv.lit rfl ?_
        have e : a_act 0 T S (Int32.ofNat g) (Int32.ofNat s) (Int32.ofNat k) = m_why 0 S (2 * g + s) (Int32.ofNat k) := by unfold a_act; rw [aGS_t hg hs, hn]
        have cw : m_why 0 S (2 * g + s) (Int32.ofNat k) ≤ 0 := c3
        exact Pv.ret rfl (by rw [hQ]; exact ⟨by rw [e, (show m_why 0 S (2 * g + s) (Int32.ofNat k) = 0 from (why_le (d := 0) (by decide)).mp cw)], (RKX.st (RKX.st rk9 (by omega) (by omega)) (by omega) (by omega)), HKX.t (HSX.same hk8 b3 ((fp_ne (Or.inl (by decide))).trans (fp_ne (Or.inl (by decide)))) (fun k => (fp_ne (Or.inl (by decide))).trans (fp_ne (Or.inl (by decide))))) (by rw [e]; exact decide_eq_true (show m_why 0 S (2 * g + s) (Int32.ofNat k) = 0 from (why_le (d := 0) (by decide)).mp cw)), by rw [m_act_y hg hs hn, try_y (d := 0) (show m_why 0 S (2 * g + s) (Int32.ofNat k) = 0 from (why_le (d := 0) (by decide)).mp cw)]; exact XS.do0 hs10 b3 (by omega)⟩)
      · skip
        replace c3 := of_decide_eq_false c3
        refine Pv.lit rfl ?_
        have e : a_act 0 T S (Int32.ofNat g) (Int32.ofNat s) (Int32.ofNat k) = m_why 0 S (2 * g + s) (Int32.ofNat k) := by unfold a_act; rw [aGS_t hg hs, hn]
        have cw : ¬ m_why 0 S (2 * g + s) (Int32.ofNat k) ≤ 0 := c3
        exact Pv.ret rfl (by rw [hQ]; exact ⟨by rw [e, whyh_1 (d := 0) (by decide) cw], (RKX.fp RKX.rf (Or.inl rfl)), HKX.f (HSX.same hH b3 (fp_ne (Or.inr (by decide))) (fun k => fp_ne (Or.inl (by decide)))) (by rw [e]; exact decide_eq_false (fun q => cw ((why_le (d := 0) (by decide)).mpr q))), by rw [m_act_y hg hs hn, try_n (d := 0) (fun q => cw ((why_le (d := 0) (by decide)).mpr q))]; exact XS.sd hS b3 (by decide)⟩)
    · skip
      replace c2 : decide (b2i (decide (1 ≤ z) && decide (z ≤ 250)) = 0) = true := by simpa using c2
      replace c2 := of_decide_eq_true c2
      replace c2 := b2z.mp c2
      refine Pv.lit rfl ?_
      have e : a_act 0 T S (Int32.ofNat g) (Int32.ofNat s) z = -1 := by unfold a_act; rw [aGS_t hg hs, ndr_f ((ndr_in (a := 1) (b := 250) (by omega) (by omega)).symm.trans c2)]
      exact Pv.ret rfl (by rw [hQ]; exact ⟨by rw [e], (RKX.fp RKX.rf (Or.inl rfl)), HKX.f (HSX.same hH b3 (fp_ne (Or.inr (by decide))) (fun k => fp_ne (Or.inl (by decide)))) (by rw [e]; rfl), by rw [m_act_n hg hs (ndr_f ((ndr_in (a := 1) (b := 250) (by omega) (by omega)).symm.trans c2))]; exact XS.sd hS b3 (by decide)⟩)
set_option maxRecDepth 100000 in
set_option maxHeartbeats 4000000 in
theorem q_bare {F : FW} {T : St} {S : Sh} (hT : XT F T) (hS : XS F (t_m T) S) (hG : GW F) {n : Nat} {H : Nat → Sh} (hH : HSX F (t_m T) n H) (x y z : Int32) : Pm Z_X11_bare [.ref 69, .int x, .int y, .int z] F (fun r F' => r = some (.int (a_act 1 T S x y z)) ∧ RKX F F' ∧ HKX (decide (a_act 1 T S x y z = 0)) F' (t_m T) n H S ∧ XS F' (t_m T) (m_act 1 T S x y z)) := by
  refine Pm.of fun N => ?_
  obtain ⟨Q, hQ⟩ : ∃ Q : Option Value → FW → Prop, Q = (fun r F' => r = some (.int (a_act 1 T S x y z)) ∧ RKX F F' ∧ HKX (decide (a_act 1 T S x y z = 0)) F' (t_m T) n H S ∧ XS F' (t_m T) (m_act 1 T S x y z)) := ⟨_, rfl⟩
  rw [← hQ]
  have b3 := hT.mb
  have b4 := hT.nb
  have b5 := hT.gb
  have b6 := m_from_lt S
  have b7 := hS.db
  refine (show Pv (ab_T (L_X11_bare Z_X11_isPlace Z_X11_isIn Z_X11_cell Z_X11_whyBare Z_X11_keep Z_X11_hoards)) N 0 [some (.ref 69), some (.int x), some (.int y), some (.int z), none] [] F Q from ?_)
  refine Pv.aload rfl rfl ?_
  refine Pv.lit rfl ?_
  refine Pv.putI rfl rfl ?_
  refine Pv.aload rfl rfl ?_
  refine Pv.iload rfl rfl ?_
  refine Pv.iload rfl rfl ?_
  refine Pv.callVI (as := [.ref 69, .int x, .int y]) (rest := []) (z := b2i ((nd (t_g T) x).isSome && (nd 2 y).isSome)) rfl rfl rfl (q_isPlace (hT.fx (P := fun q => q = 69) (((FX.rf (P := fun q => q = 69))).fp rfl) (by decide)) (hG.fx (P := fun _ => True) (((FX.rf (P := fun _ => True))).fp trivial)) x y) ?_
  refine Pv.if0 rfl (fun c1 => ?_) (fun c1 => ?_)
  · skip
    replace c1 := of_decide_eq_true c1
    replace c1 := b2z.mp c1
    refine Pv.lit rfl ?_
    have e : a_act 1 T S x y z = -1 := by unfold a_act; rw [aGS_f c1]
    exact Pv.ret rfl (by rw [hQ]; exact ⟨by rw [e], (RKX.fp RKX.rf (Or.inl rfl)), HKX.f (HSX.same hH b3 (fp_ne (Or.inr (by decide))) (fun k => fp_ne (Or.inl (by decide)))) (by rw [e]; rfl), by rw [m_act_f c1]; exact XS.sd hS b3 (by decide)⟩)
  · skip
    replace c1 := of_decide_eq_false c1
    replace c1 := b2n.mp c1
    obtain ⟨g, s, hg, hs, hgl, hsl, rfl, rfl⟩ := gs_t c1
    refine Pv.iload rfl rfl ?_
    refine Pv.lit rfl ?_
    refine Pv.lit rfl ?_
    refine Pv.callI (as := [.int z, .int 1, .int 250]) (rest := []) (z := b2i (decide (1 ≤ z) && decide (z ≤ 250))) rfl rfl rfl (q_isIn z 1 250) ?_
    refine Pv.if0 rfl (fun c2 => ?_) (fun c2 => ?_)
    · skip
      replace c2 : decide (b2i (decide (1 ≤ z) && decide (z ≤ 250)) = 0) = false := by simpa using c2
      replace c2 := of_decide_eq_false c2
      replace c2 := b2n.mp c2
      obtain ⟨k, hn, hna, hnb, rfl⟩ := ndr_t ((ndr_in (a := 1) (b := 250) (by omega) (by omega)).symm.trans c2)
      refine Pv.aload rfl rfl ?_
      refine Pv.iload rfl rfl ?_
      refine Pv.iload rfl rfl ?_
      refine Pv.callI (as := [.int (Int32.ofNat g), .int (Int32.ofNat s)]) (rest := [.ref 69]) (z := Int32.ofNat (2 * g + s)) rfl rfl rfl (g_cell (g := g) (s := s)) ?_
      refine Pv.iload rfl rfl ?_
      refine Pv.callVI (as := [.ref 69, .int (Int32.ofNat (2 * g + s)), .int (Int32.ofNat k)]) (rest := []) (z := m_why 1 S (2 * g + s) (Int32.ofNat k)) rfl rfl rfl (g_whyBare (k := 2 * g + s) (n := Int32.ofNat k) (XS.sd (a := 69) (k := 0) (v := 0) hS b3 (by decide)) (GW.fpp (a := 69) (k := 0) (v := 0) hG) (by omega)) ?_
      refine Pv.istore (lo' := [some (.ref 69), some (.int (Int32.ofNat g)), some (.int (Int32.ofNat s)), some (.int (Int32.ofNat k)), some (.int (m_why 1 S (2 * g + s) (Int32.ofNat k)))]) rfl rfl ?_
      refine Pv.iload rfl rfl ?_
      refine Pv.if0 rfl (fun c3 => ?_) (fun c3 => ?_)
      · skip
        replace c3 := of_decide_eq_true c3
        refine Pv.aload rfl rfl ?_
        refine Pv.callV (as := [.ref 69]) (rest := []) rfl rfl rfl (g_keep b3 (XS.sd (a := 69) (k := 0) (v := 0) hS b3 (by decide)) (GW.fpp (a := 69) (k := 0) (v := 0) hG) (HSX.same hH b3 (fp_ne (Or.inr (by decide))) (fun k => fp_ne (Or.inl (by decide))))) ?_
        rintro _ G4 ⟨rfl, x5, x6, x7, hk8⟩
        have rk9 := RKX.kp (RKX.fp RKX.rf (Or.inl rfl)) x5 x6 x7
        have hs10 := XS.of (XS.sd (a := 69) (k := 0) (v := 0) hS b3 (by decide)) b3 (fun k _ _ => x6 k)
        have hx11 := RKX.T rk9 hT
        have hx12 := RKX.G rk9 hG
        refine (show Pv _ _ 51 [some (.ref 69), some (.int (Int32.ofNat g)), some (.int (Int32.ofNat s)), some (.int (Int32.ofNat k)), some (.int (m_why 1 S (2 * g + s) (Int32.ofNat k)))] [] G4 Q from ?_)
        refine Pv.aload rfl rfl ?_
        refine Pv.iload rfl rfl ?_
        refine Pv.iload rfl rfl ?_
        refine Pv.callI (as := [.int (Int32.ofNat g), .int (Int32.ofNat s)]) (rest := [.ref 69]) (z := Int32.ofNat (2 * g + s)) rfl rfl rfl (g_cell (g := g) (s := s)) ?_
        refine Pv.iload rfl rfl ?_
        refine Pv.un (z := -(Int32.ofNat k)) rfl (rfl) ?_
        refine Pv.callVU (as := [.ref 69, .int (Int32.ofNat (2 * g + s)), .int (-(Int32.ofNat k))]) (rest := []) rfl rfl rfl (g_hoards (k := 2 * g + s) (n := -(Int32.ofNat k)) hs10 hx12 (by omega)) ?_
        refine Pv.lit rfl ?_
        have e : a_act 1 T S (Int32.ofNat g) (Int32.ofNat s) (Int32.ofNat k) = m_why 1 S (2 * g + s) (Int32.ofNat k) := by unfold a_act; rw [aGS_t hg hs, hn]
        have cw : m_why 1 S (2 * g + s) (Int32.ofNat k) ≤ 0 := c3
        exact Pv.ret rfl (by rw [hQ]; exact ⟨by rw [e, (show m_why 1 S (2 * g + s) (Int32.ofNat k) = 0 from (why_le (d := 1) (by decide)).mp cw)], (RKX.st (RKX.st rk9 (by omega) (by omega)) (by omega) (by omega)), HKX.t (HSX.same hk8 b3 ((fp_ne (Or.inl (by decide))).trans (fp_ne (Or.inl (by decide)))) (fun k => (fp_ne (Or.inl (by decide))).trans (fp_ne (Or.inl (by decide))))) (by rw [e]; exact decide_eq_true (show m_why 1 S (2 * g + s) (Int32.ofNat k) = 0 from (why_le (d := 1) (by decide)).mp cw)), by rw [m_act_y hg hs hn, try_y (d := 1) (show m_why 1 S (2 * g + s) (Int32.ofNat k) = 0 from (why_le (d := 1) (by decide)).mp cw)]; exact XS.do1 hs10 b3 (by omega)⟩)
      · skip
        replace c3 := of_decide_eq_false c3
        refine Pv.iload rfl rfl ?_
        have e : a_act 1 T S (Int32.ofNat g) (Int32.ofNat s) (Int32.ofNat k) = m_why 1 S (2 * g + s) (Int32.ofNat k) := by unfold a_act; rw [aGS_t hg hs, hn]
        have cw : ¬ m_why 1 S (2 * g + s) (Int32.ofNat k) ≤ 0 := c3
        exact Pv.ret rfl (by rw [hQ]; exact ⟨by rw [e], (RKX.fp RKX.rf (Or.inl rfl)), HKX.f (HSX.same hH b3 (fp_ne (Or.inr (by decide))) (fun k => fp_ne (Or.inl (by decide)))) (by rw [e]; exact decide_eq_false (fun q => cw ((why_le (d := 1) (by decide)).mpr q))), by rw [m_act_y hg hs hn, try_n (d := 1) (fun q => cw ((why_le (d := 1) (by decide)).mpr q))]; exact XS.sd hS b3 (by decide)⟩)
    · skip
      replace c2 : decide (b2i (decide (1 ≤ z) && decide (z ≤ 250)) = 0) = true := by simpa using c2
      replace c2 := of_decide_eq_true c2
      replace c2 := b2z.mp c2
      refine Pv.lit rfl ?_
      have e : a_act 1 T S (Int32.ofNat g) (Int32.ofNat s) z = -1 := by unfold a_act; rw [aGS_t hg hs, ndr_f ((ndr_in (a := 1) (b := 250) (by omega) (by omega)).symm.trans c2)]
      exact Pv.ret rfl (by rw [hQ]; exact ⟨by rw [e], (RKX.fp RKX.rf (Or.inl rfl)), HKX.f (HSX.same hH b3 (fp_ne (Or.inr (by decide))) (fun k => fp_ne (Or.inl (by decide)))) (by rw [e]; rfl), by rw [m_act_n hg hs (ndr_f ((ndr_in (a := 1) (b := 250) (by omega) (by omega)).symm.trans c2))]; exact XS.sd hS b3 (by decide)⟩)
set_option maxRecDepth 100000 in
set_option maxHeartbeats 4000000 in
theorem q_waste {F : FW} {T : St} {S : Sh} (hT : XT F T) (hS : XS F (t_m T) S) (hG : GW F) {n : Nat} {H : Nat → Sh} (hH : HSX F (t_m T) n H) (x y z : Int32) : Pm Z_X11_waste [.ref 69, .int x, .int y, .int z] F (fun r F' => r = some (.int (a_act 2 T S x y z)) ∧ RKX F F' ∧ HKX (decide (a_act 2 T S x y z = 0)) F' (t_m T) n H S ∧ XS F' (t_m T) (m_act 2 T S x y z)) := by
  refine Pm.of fun N => ?_
  obtain ⟨Q, hQ⟩ : ∃ Q : Option Value → FW → Prop, Q = (fun r F' => r = some (.int (a_act 2 T S x y z)) ∧ RKX F F' ∧ HKX (decide (a_act 2 T S x y z = 0)) F' (t_m T) n H S ∧ XS F' (t_m T) (m_act 2 T S x y z)) := ⟨_, rfl⟩
  rw [← hQ]
  have b3 := hT.mb
  have b4 := hT.nb
  have b5 := hT.gb
  have b6 := m_from_lt S
  have b7 := hS.db
  refine (show Pv (ab_T (L_X11_waste Z_X11_isPlace Z_X11_isIn Z_X11_cell Z_X11_whyHoard Z_X11_keep)) N 0 [some (.ref 69), some (.int x), some (.int y), some (.int z)] [] F Q from ?_)
  refine Pv.aload rfl rfl ?_
  refine Pv.lit rfl ?_
  refine Pv.putI rfl rfl ?_
  refine Pv.aload rfl rfl ?_
  refine Pv.iload rfl rfl ?_
  refine Pv.iload rfl rfl ?_
  refine Pv.callVI (as := [.ref 69, .int x, .int y]) (rest := []) (z := b2i ((nd (t_g T) x).isSome && (nd 2 y).isSome)) rfl rfl rfl (q_isPlace (hT.fx (P := fun q => q = 69) (((FX.rf (P := fun q => q = 69))).fp rfl) (by decide)) (hG.fx (P := fun _ => True) (((FX.rf (P := fun _ => True))).fp trivial)) x y) ?_
  refine Pv.if0 rfl (fun c1 => ?_) (fun c1 => ?_)
  · skip
    replace c1 := of_decide_eq_true c1
    replace c1 := b2z.mp c1
    refine Pv.lit rfl ?_
    have e : a_act 2 T S x y z = -1 := by unfold a_act; rw [aGS_f c1]
    exact Pv.ret rfl (by rw [hQ]; exact ⟨by rw [e], (RKX.fp RKX.rf (Or.inl rfl)), HKX.f (HSX.same hH b3 (fp_ne (Or.inr (by decide))) (fun k => fp_ne (Or.inl (by decide)))) (by rw [e]; rfl), by rw [m_act_f c1]; exact XS.sd hS b3 (by decide)⟩)
  · skip
    replace c1 := of_decide_eq_false c1
    replace c1 := b2n.mp c1
    obtain ⟨g, s, hg, hs, hgl, hsl, rfl, rfl⟩ := gs_t c1
    refine Pv.iload rfl rfl ?_
    refine Pv.lit rfl ?_
    refine Pv.lit rfl ?_
    refine Pv.callI (as := [.int z, .int 1, .int 250]) (rest := []) (z := b2i (decide (1 ≤ z) && decide (z ≤ 250))) rfl rfl rfl (q_isIn z 1 250) ?_
    refine Pv.if0 rfl (fun c2 => ?_) (fun c2 => ?_)
    · skip
      replace c2 : decide (b2i (decide (1 ≤ z) && decide (z ≤ 250)) = 0) = false := by simpa using c2
      replace c2 := of_decide_eq_false c2
      replace c2 := b2n.mp c2
      obtain ⟨k, hn, hna, hnb, rfl⟩ := ndr_t ((ndr_in (a := 1) (b := 250) (by omega) (by omega)).symm.trans c2)
      refine Pv.aload rfl rfl ?_
      refine Pv.iload rfl rfl ?_
      refine Pv.iload rfl rfl ?_
      refine Pv.callI (as := [.int (Int32.ofNat g), .int (Int32.ofNat s)]) (rest := [.ref 69]) (z := Int32.ofNat (2 * g + s)) rfl rfl rfl (g_cell (g := g) (s := s)) ?_
      refine Pv.iload rfl rfl ?_
      refine Pv.callVI (as := [.ref 69, .int (Int32.ofNat (2 * g + s)), .int (Int32.ofNat k)]) (rest := []) (z := m_why 0 S (2 * g + s) (Int32.ofNat k)) rfl rfl rfl (g_whyHoard (k := 2 * g + s) (n := Int32.ofNat k) (XS.sd (a := 69) (k := 0) (v := 0) hS b3 (by decide)) (GW.fpp (a := 69) (k := 0) (v := 0) hG) (by omega)) ?_
      refine Pv.if0 rfl (fun c3 => ?_) (fun c3 => ?_)
      · skip
        replace c3 := of_decide_eq_true c3
        refine Pv.aload rfl rfl ?_
        refine Pv.callV (as := [.ref 69]) (rest := []) rfl rfl rfl (g_keep b3 (XS.sd (a := 69) (k := 0) (v := 0) hS b3 (by decide)) (GW.fpp (a := 69) (k := 0) (v := 0) hG) (HSX.same hH b3 (fp_ne (Or.inr (by decide))) (fun k => fp_ne (Or.inl (by decide))))) ?_
        rintro _ G4 ⟨rfl, x5, x6, x7, hk8⟩
        have rk9 := RKX.kp (RKX.fp RKX.rf (Or.inl rfl)) x5 x6 x7
        have hs10 := XS.of (XS.sd (a := 69) (k := 0) (v := 0) hS b3 (by decide)) b3 (fun k _ _ => x6 k)
        have hx11 := RKX.T rk9 hT
        have hx12 := RKX.G rk9 hG
        refine (show Pv _ _ 46 [some (.ref 69), some (.int (Int32.ofNat g)), some (.int (Int32.ofNat s)), some (.int (Int32.ofNat k))] [] G4 Q from ?_)
        refine Pv.aload rfl rfl ?_
        refine Pv.getR (v := .ref 71) rfl rfl (GW.at (a := 69) (k := 6) (b := 71) hx12 (by decide)) ?_
        refine Pv.lit rfl ?_
        refine Pv.iload rfl rfl ?_
        refine Pv.iload rfl rfl ?_
        refine Pv.callI (as := [.int (Int32.ofNat g), .int (Int32.ofNat s)]) (rest := [.int 124, .ref 71]) (z := Int32.ofNat (2 * g + s)) rfl rfl rfl (g_cell (g := g) (s := s)) ?_
        refine Pv.bin (z := Int32.ofNat (124 + (2 * g + s))) rfl (i_add 124 (2 * g + s)) ?_
        refine Pv.dup2 rfl ?_
        refine Pv.ald (z := h_s S (2 * g + s)) rfl (by rw [i_toNat (by omega)]; exact hs10.s _ (by omega)) ?_
        refine Pv.iload rfl rfl ?_
        refine Pv.bin (z := (h_s S (2 * g + s)) - (Int32.ofNat k)) rfl (rfl) ?_
        refine Pv.astk (k := 124 + (2 * g + s)) (z := (h_s S (2 * g + s)) - (Int32.ofNat k)) rfl (i_toNat (by omega)) (rfl) ?_
        refine Pv.lit rfl ?_
        have e : a_act 2 T S (Int32.ofNat g) (Int32.ofNat s) (Int32.ofNat k) = m_why 2 S (2 * g + s) (Int32.ofNat k) := by unfold a_act; rw [aGS_t hg hs, hn]
        have cw : m_why 2 S (2 * g + s) (Int32.ofNat k) ≤ 0 := c3
        exact Pv.ret rfl (by rw [hQ]; exact ⟨by rw [e, (show m_why 2 S (2 * g + s) (Int32.ofNat k) = 0 from (why_le (d := 2) (by decide)).mp cw)], (RKX.st rk9 (by omega) (by omega)), HKX.t (HSX.same hk8 b3 (fp_ne (Or.inl (by decide))) (fun k => fp_ne (Or.inl (by decide)))) (by rw [e]; exact decide_eq_true (show m_why 2 S (2 * g + s) (Int32.ofNat k) = 0 from (why_le (d := 2) (by decide)).mp cw)), by rw [m_act_y hg hs hn, try_y (d := 2) (show m_why 2 S (2 * g + s) (Int32.ofNat k) = 0 from (why_le (d := 2) (by decide)).mp cw)]; exact XS.do2 hs10 b3 (by omega)⟩)
      · skip
        replace c3 := of_decide_eq_false c3
        refine Pv.lit rfl ?_
        have e : a_act 2 T S (Int32.ofNat g) (Int32.ofNat s) (Int32.ofNat k) = m_why 2 S (2 * g + s) (Int32.ofNat k) := by unfold a_act; rw [aGS_t hg hs, hn]
        have cw : ¬ m_why 2 S (2 * g + s) (Int32.ofNat k) ≤ 0 := c3
        exact Pv.ret rfl (by rw [hQ]; exact ⟨by rw [e, whyh_1 (d := 2) (by decide) cw], (RKX.fp RKX.rf (Or.inl rfl)), HKX.f (HSX.same hH b3 (fp_ne (Or.inr (by decide))) (fun k => fp_ne (Or.inl (by decide)))) (by rw [e]; exact decide_eq_false (fun q => cw ((why_le (d := 2) (by decide)).mpr q))), by rw [m_act_y hg hs hn, try_n (d := 2) (fun q => cw ((why_le (d := 2) (by decide)).mpr q))]; exact XS.sd hS b3 (by decide)⟩)
    · skip
      replace c2 : decide (b2i (decide (1 ≤ z) && decide (z ≤ 250)) = 0) = true := by simpa using c2
      replace c2 := of_decide_eq_true c2
      replace c2 := b2z.mp c2
      refine Pv.lit rfl ?_
      have e : a_act 2 T S (Int32.ofNat g) (Int32.ofNat s) z = -1 := by unfold a_act; rw [aGS_t hg hs, ndr_f ((ndr_in (a := 1) (b := 250) (by omega) (by omega)).symm.trans c2)]
      exact Pv.ret rfl (by rw [hQ]; exact ⟨by rw [e], (RKX.fp RKX.rf (Or.inl rfl)), HKX.f (HSX.same hH b3 (fp_ne (Or.inr (by decide))) (fun k => fp_ne (Or.inl (by decide)))) (by rw [e]; rfl), by rw [m_act_n hg hs (ndr_f ((ndr_in (a := 1) (b := 250) (by omega) (by omega)).symm.trans c2))]; exact XS.sd hS b3 (by decide)⟩)
set_option maxRecDepth 100000 in
set_option maxHeartbeats 4000000 in
theorem q_die {F : FW} {T : St} {S : Sh} (hT : XT F T) (hS : XS F (t_m T) S) (hG : GW F) {n : Nat} {H : Nat → Sh} (hH : HSX F (t_m T) n H) (x : Int32) : Pm Z_X11_die [.ref 69, .int x] F (fun r F' => r = some (.int (a_die T S x)) ∧ RKX F F' ∧ HKX (decide (a_die T S x = 0)) F' (t_m T) n H S ∧ XS F' (t_m T) (m_die T S x)) := by
  refine Pm.of fun N => ?_
  obtain ⟨Q, hQ⟩ : ∃ Q : Option Value → FW → Prop, Q = (fun r F' => r = some (.int (a_die T S x)) ∧ RKX F F' ∧ HKX (decide (a_die T S x = 0)) F' (t_m T) n H S ∧ XS F' (t_m T) (m_die T S x)) := ⟨_, rfl⟩
  rw [← hQ]
  have b3 := hT.mb
  have b4 := hT.nb
  have b5 := hT.gb
  have b6 := m_from_lt S
  have b7 := hS.db
  refine (show Pv (ab_T (L_X11_die Z_X11_isMan Z_X11_isDead Z_X11_keep)) N 0 [some (.ref 69), some (.int x)] [] F Q from ?_)
  refine Pv.aload rfl rfl ?_
  refine Pv.lit rfl ?_
  refine Pv.putI rfl rfl ?_
  refine Pv.aload rfl rfl ?_
  refine Pv.iload rfl rfl ?_
  refine Pv.callVI (as := [.ref 69, .int x]) (rest := []) (z := b2i (nd (t_m T) x).isSome) rfl rfl rfl (q_isMan (hT.fx (P := fun q => q = 69) (((FX.rf (P := fun q => q = 69))).fp rfl) (by decide)) (hG.fx (P := fun _ => True) (((FX.rf (P := fun _ => True))).fp trivial)) x) ?_
  refine Pv.if0 rfl (fun c1 => ?_) (fun c1 => ?_)
  · skip
    replace c1 : decide (b2i (nd (t_m T) x).isSome = 0) = false := by simpa using c1
    replace c1 := of_decide_eq_false c1
    replace c1 := b2n.mp c1
    obtain ⟨k, hn, hnl, rfl⟩ := nd_t c1
    refine Pv.aload rfl rfl ?_
    refine Pv.iload rfl rfl ?_
    refine Pv.callVI (as := [.ref 69, .int (Int32.ofNat k)]) (rest := []) (z := b2i (!m_alive S k)) rfl rfl rfl (g_isDead (o := 0) (m := k) (hS.xd.fx (P := fun q => q = 69) (((FX.rf (P := fun q => q = 69))).fp rfl) (by decide)) (hG.fx (P := fun _ => True) (((FX.rf (P := fun _ => True))).fp trivial)) (by omega)) ?_
    refine Pv.if0 rfl (fun c2 => ?_) (fun c2 => ?_)
    · skip
      replace c2 := of_decide_eq_true c2
      replace c2 := b2z.mp c2
      refine Pv.aload rfl rfl ?_
      refine Pv.callV (as := [.ref 69]) (rest := []) rfl rfl rfl (g_keep b3 (XS.sd (a := 69) (k := 0) (v := 0) hS b3 (by decide)) (GW.fpp (a := 69) (k := 0) (v := 0) hG) (HSX.same hH b3 (fp_ne (Or.inr (by decide))) (fun k => fp_ne (Or.inl (by decide))))) ?_
      rintro _ G3 ⟨rfl, x4, x5, x6, hk7⟩
      have rk8 := RKX.kp (RKX.fp RKX.rf (Or.inl rfl)) x4 x5 x6
      have hs9 := XS.of (XS.sd (a := 69) (k := 0) (v := 0) hS b3 (by decide)) b3 (fun k _ _ => x5 k)
      have hx10 := RKX.T rk8 hT
      have hx11 := RKX.G rk8 hG
      refine (show Pv _ _ 29 [some (.ref 69), some (.int (Int32.ofNat k))] [] G3 Q from ?_)
      refine Pv.aload rfl rfl ?_
      refine Pv.getR (v := .ref 71) rfl rfl (GW.at (a := 69) (k := 6) (b := 71) hx11 (by decide)) ?_
      refine Pv.lit rfl ?_
      refine Pv.dup2 rfl ?_
      refine Pv.ald (z := G3.1 71 180) rfl (rfl) ?_
      refine Pv.lit rfl ?_
      refine Pv.iload rfl rfl ?_
      refine Pv.bin (z := 1 <<< ((Int32.ofNat k) &&& 31)) rfl (rfl) ?_
      refine Pv.bin (z := (G3.1 71 180) ||| (1 <<< ((Int32.ofNat k) &&& 31))) rfl (rfl) ?_
      refine Pv.astk (k := 180) (z := (G3.1 71 180) ||| (1 <<< ((Int32.ofNat k) &&& 31))) rfl (rfl) (rfl) ?_
      refine Pv.lit rfl ?_
      have e : a_die T S (Int32.ofNat k) = m_why 3 S k 0 := by unfold a_die; rw [hn]
      have w : m_why 3 S k 0 = 0 := if_pos (by simpa using c2)
      exact Pv.ret rfl (by rw [hQ]; exact ⟨by rw [e, w], (RKX.st rk8 (by omega) (by omega)), HKX.t (HSX.same hk7 b3 (fp_ne (Or.inl (by decide))) (fun k => fp_ne (Or.inl (by decide)))) (by rw [e]; exact decide_eq_true w), by unfold m_die; rw [hn]; exact XS.die3b hs9 b3 (by omega) rfl⟩)
    · skip
      replace c2 := of_decide_eq_false c2
      replace c2 := b2n.mp c2
      refine Pv.lit rfl ?_
      have e : a_die T S (Int32.ofNat k) = m_why 3 S k 0 := by unfold a_die; rw [hn]
      have w : m_why 3 S k 0 = 1 := if_neg (by have q := c2; simp at q; rw [q]; decide)
      exact Pv.ret rfl (by rw [hQ]; exact ⟨by rw [e, w], (RKX.fp RKX.rf (Or.inl rfl)), HKX.f (HSX.same hH b3 (fp_ne (Or.inr (by decide))) (fun k => fp_ne (Or.inl (by decide)))) (by rw [e, w]; rfl), by unfold m_die; rw [hn]; dsimp only; rw [try_n (d := 3) (by rw [w]; decide)]; exact XS.sd hS b3 (by decide)⟩)
  · skip
    replace c1 : decide (b2i (nd (t_m T) x).isSome = 0) = true := by simpa using c1
    replace c1 := of_decide_eq_true c1
    replace c1 := b2z.mp c1
    refine Pv.lit rfl ?_
    have e : a_die T S x = -1 := by unfold a_die; rw [nd_f c1]
    exact Pv.ret rfl (by rw [hQ]; exact ⟨by rw [e], (RKX.fp RKX.rf (Or.inl rfl)), HKX.f (HSX.same hH b3 (fp_ne (Or.inr (by decide))) (fun k => fp_ne (Or.inl (by decide)))) (by rw [e]; rfl), by unfold m_die; rw [nd_f c1]; exact XS.sd hS b3 (by decide)⟩)
set_option maxRecDepth 100000 in
set_option maxHeartbeats 4000000 in
theorem q_days {F : FW} {T : St} {S : Sh} (hT : XT F T) (hS : XS F (t_m T) S) (hG : GW F) {n : Nat} {H : Nat → Sh} (hH : HSX F (t_m T) n H) (hTB : TBB T) (hI : INV T S) (x : Int32) : Pm Z_X11_days [.ref 69, .int x] F (fun r F' => r = some (.int (a_days T S x)) ∧ RKX F F' ∧ HKX ((ndr 1 60 x).isSome && decide (h_d S < 400)) F' (t_m T) n H S ∧ XS F' (t_m T) (m_dys T S x)) := by
  refine Pm.of fun N => ?_
  obtain ⟨Q, hQ⟩ : ∃ Q : Option Value → FW → Prop, Q = (fun r F' => r = some (.int (a_days T S x)) ∧ RKX F F' ∧ HKX ((ndr 1 60 x).isSome && decide (h_d S < 400)) F' (t_m T) n H S ∧ XS F' (t_m T) (m_dys T S x)) := ⟨_, rfl⟩
  rw [← hQ]
  have b3 := hT.mb
  have b4 := hT.nb
  have b5 := hT.gb
  have b6 := m_from_lt S
  have b7 := hS.db
  have hSB := hI.sb
  refine (show Pv (ab_T (L_X11_days Z_X11_isIn Z_X11_keep Z_X11_goesOn)) N 0 [some (.ref 69), some (.int x)] [] F Q from ?_)
  refine Pv.aload rfl rfl ?_
  refine Pv.lit rfl ?_
  refine Pv.putI rfl rfl ?_
  refine Pv.iload rfl rfl ?_
  refine Pv.lit rfl ?_
  refine Pv.lit rfl ?_
  refine Pv.callI (as := [.int x, .int 1, .int 60]) (rest := []) (z := b2i (decide (1 ≤ x) && decide (x ≤ 60))) rfl rfl rfl (q_isIn x 1 60) ?_
  refine Pv.if0 rfl (fun c1 => ?_) (fun c1 => ?_)
  · skip
    replace c1 : decide (b2i (decide (1 ≤ x) && decide (x ≤ 60)) = 0) = false := by simpa using c1
    replace c1 := of_decide_eq_false c1
    replace c1 := b2n.mp c1
    obtain ⟨k, hn, hna, hnb, rfl⟩ := ndr_t ((ndr_in (a := 1) (b := 60) (by omega) (by omega)).symm.trans c1)
    refine Pv.aload rfl rfl ?_
    refine Pv.getR (v := .ref 71) rfl rfl (GW.at (a := 69) (k := 6) (b := 71) hG (by decide)) ?_
    refine Pv.lit rfl ?_
    refine Pv.ald (z := Int32.ofNat (h_d S)) rfl ((fp_ne (Or.inl (by decide))).trans (hS.d)) ?_
    refine Pv.lit rfl ?_
    refine Pv.icmp rfl (fun c2 => ?_) (fun c2 => ?_)
    · skip
      replace c2 : decide (Int32.ofNat (h_d S) = 400) = false := by simpa using c2
      replace c2 := mt (i_eq (a := h_d S) (b := 400) (by omega) (by omega)).mpr (of_decide_eq_false c2)
      refine Pv.aload rfl rfl ?_
      refine Pv.callV (as := [.ref 69]) (rest := []) rfl rfl rfl (g_keep b3 (XS.sd (a := 69) (k := 0) (v := 0) hS b3 (by decide)) (GW.fpp (a := 69) (k := 0) (v := 0) hG) (HSX.same hH b3 (fp_ne (Or.inr (by decide))) (fun k => fp_ne (Or.inl (by decide))))) ?_
      rintro _ G3 ⟨rfl, x4, x5, x6, hk7⟩
      have rk8 := RKX.kp (RKX.fp RKX.rf (Or.inl rfl)) x4 x5 x6
      have hs9 := XS.of (XS.sd (a := 69) (k := 0) (v := 0) hS b3 (by decide)) b3 (fun k _ _ => x5 k)
      have hx10 := RKX.T rk8 hT
      have hx11 := RKX.G rk8 hG
      refine (show Pv _ _ 36 [some (.ref 69), some (.int (Int32.ofNat k))] [] G3 Q from ?_)
      refine Pv.aload rfl rfl ?_
      refine Pv.iload rfl rfl ?_
      refine Pv.callV (as := [.ref 69, .int (Int32.ofNat k)]) (rest := []) rfl rfl rfl (g_goesOn (n := k) hx10 hs9 hx11 hTB hI.sb (by omega)) ?_
      rintro _ G12 ⟨rfl, x13, hs14⟩
      have rk15 := RKX.rx rk8 x13
      have hk16 := HSX.same hk7 b3 (x13.2.1 25 (by decide)) (fun k => x13.1.1 77 k (by decide))
      refine (show Pv _ _ 41 [some (.ref 69), some (.int (Int32.ofNat k))] [.int (Int32.ofNat (h_d (m_days T S k) - h_d S))] G12 Q from ?_)
      exact Pv.ret rfl (by rw [hQ]; exact ⟨by unfold a_days; rw [hn]; exact congrArg (fun q => some (Value.int q)) (i_subN (days_ge T S k)).symm, rk15, HKX.t hk16 (by rw [hn]; exact decide_eq_true (by omega)), by unfold m_dys; rw [hn]; exact hs14⟩)
    · skip
      replace c2 : decide (Int32.ofNat (h_d S) = 400) = true := by simpa using c2
      replace c2 := (i_eq (a := h_d S) (b := 400) (by omega) (by omega)).mp (of_decide_eq_true c2)
      refine Pv.lit rfl ?_
      exact Pv.ret rfl (by rw [hQ]; exact ⟨by unfold a_days; rw [hn]; dsimp only; rw [days_400 (by omega), Int32.sub_self], (RKX.fp RKX.rf (Or.inl rfl)), HKX.f (HSX.same hH b3 (fp_ne (Or.inr (by decide))) (fun k => fp_ne (Or.inl (by decide)))) (by rw [hn]; exact decide_eq_false (by omega)), by unfold m_dys; rw [hn]; dsimp only; rw [days_400 (by omega)]; exact XS.sd hS b3 (by decide)⟩)
  · skip
    replace c1 : decide (b2i (decide (1 ≤ x) && decide (x ≤ 60)) = 0) = true := by simpa using c1
    replace c1 := of_decide_eq_true c1
    replace c1 := b2z.mp c1
    refine Pv.lit rfl ?_
    exact Pv.ret rfl (by rw [hQ]; exact ⟨by unfold a_days; rw [ndr_f ((ndr_in (a := 1) (b := 60) (by omega) (by omega)).symm.trans c1)], (RKX.fp RKX.rf (Or.inl rfl)), HKX.f (HSX.same hH b3 (fp_ne (Or.inr (by decide))) (fun k => fp_ne (Or.inl (by decide)))) (by rw [ndr_f ((ndr_in (a := 1) (b := 60) (by omega) (by omega)).symm.trans c1)]; rfl), by unfold m_dys; rw [ndr_f ((ndr_in (a := 1) (b := 60) (by omega) (by omega)).symm.trans c1)]; exact XS.sd hS b3 (by decide)⟩)
set_option maxRecDepth 100000 in
set_option maxHeartbeats 4000000 in
theorem q_drawn {F : FW} {T : St} {S : Sh} (hT : XT F T) (hS : XS F (t_m T) S) (hG : GW F) {n : Nat} {H : Nat → Sh} (hH : HSX F (t_m T) n H) (hTB : TBB T) (hI : INV T S) (x z : Int32) : Pm Z_X11_drawn [.ref 69, .int x, .int z] F (fun r F' => r = some (.int (a_drawn T S x z)) ∧ RKX F F' ∧ HKX ((ndr 1 60 x).isSome && decide (0 < t_g T) && decide (h_d S < 400)) F' (t_m T) n H S ∧ XS F' (t_m T) (m_dwn T S x z)) := by
  refine Pm.of fun N => ?_
  obtain ⟨Q, hQ⟩ : ∃ Q : Option Value → FW → Prop, Q = (fun r F' => r = some (.int (a_drawn T S x z)) ∧ RKX F F' ∧ HKX ((ndr 1 60 x).isSome && decide (0 < t_g T) && decide (h_d S < 400)) F' (t_m T) n H S ∧ XS F' (t_m T) (m_dwn T S x z)) := ⟨_, rfl⟩
  rw [← hQ]
  have b3 := hT.mb
  have b4 := hT.nb
  have b5 := hT.gb
  have b6 := m_from_lt S
  have b7 := hS.db
  have hSB := hI.sb
  refine (show Pv (ab_T (L_X11_drawn Z_X11_isIn Z_X11_keep Z_X11_draws)) N 0 [some (.ref 69), some (.int x), some (.int z)] [] F Q from ?_)
  refine Pv.aload rfl rfl ?_
  refine Pv.lit rfl ?_
  refine Pv.putI rfl rfl ?_
  refine Pv.iload rfl rfl ?_
  refine Pv.lit rfl ?_
  refine Pv.lit rfl ?_
  refine Pv.callI (as := [.int x, .int 1, .int 60]) (rest := []) (z := b2i (decide (1 ≤ x) && decide (x ≤ 60))) rfl rfl rfl (q_isIn x 1 60) ?_
  refine Pv.if0 rfl (fun c1 => ?_) (fun c1 => ?_)
  · skip
    replace c1 := of_decide_eq_true c1
    replace c1 := b2z.mp c1
    refine Pv.lit rfl ?_
    exact Pv.ret rfl (by rw [hQ]; exact ⟨by unfold a_drawn; rw [ndr_f ((ndr_in (a := 1) (b := 60) (by omega) (by omega)).symm.trans c1)], (RKX.fp RKX.rf (Or.inl rfl)), HKX.f (HSX.same hH b3 (fp_ne (Or.inr (by decide))) (fun k => fp_ne (Or.inl (by decide)))) (by rw [ndr_f ((ndr_in (a := 1) (b := 60) (by omega) (by omega)).symm.trans c1)]; rfl), by unfold m_dwn; rw [ndr_f ((ndr_in (a := 1) (b := 60) (by omega) (by omega)).symm.trans c1)]; exact XS.sd hS b3 (by decide)⟩)
  · skip
    replace c1 := of_decide_eq_false c1
    replace c1 := b2n.mp c1
    obtain ⟨k, hn, hna, hnb, rfl⟩ := ndr_t ((ndr_in (a := 1) (b := 60) (by omega) (by omega)).symm.trans c1)
    refine Pv.aload rfl rfl ?_
    refine Pv.getR (v := .ref 71) rfl rfl (GW.at (a := 69) (k := 6) (b := 71) hG (by decide)) ?_
    refine Pv.lit rfl ?_
    refine Pv.ald (z := Int32.ofNat (t_g T)) rfl ((fp_ne (Or.inl (by decide))).trans (hT.g)) ?_
    refine Pv.if0 rfl (fun c2 => ?_) (fun c2 => ?_)
    · skip
      replace c2 : decide (Int32.ofNat (t_g T) = 0) = false := by simpa using c2
      replace c2 := mt (i_eq (a := t_g T) (b := 0) (by omega) (by omega)).mpr (of_decide_eq_false c2)
      have hg0 : 0 < t_g T := by omega
      refine Pv.aload rfl rfl ?_
      refine Pv.getR (v := .ref 71) rfl rfl (GW.at (a := 69) (k := 6) (b := 71) hG (by decide)) ?_
      refine Pv.lit rfl ?_
      refine Pv.ald (z := Int32.ofNat (h_d S)) rfl ((fp_ne (Or.inl (by decide))).trans (hS.d)) ?_
      refine Pv.lit rfl ?_
      refine Pv.icmp rfl (fun c3 => ?_) (fun c3 => ?_)
      · skip
        replace c3 := (i_le (a := 400) (b := h_d S) (by omega) (by omega)).mp (of_decide_eq_true c3)
        refine Pv.aload rfl rfl ?_
        refine Pv.iload rfl rfl ?_
        refine Pv.iload rfl rfl ?_
        refine Pv.callV (as := [.ref 69, .int (Int32.ofNat k), .int z]) (rest := []) rfl rfl rfl (g_draws (n := k) (hT.fx (P := fun q => q = 69) (((FX.rf (P := fun q => q = 69))).fp rfl) (by decide)) (XS.sd (a := 69) (k := 0) (v := 0) hS b3 (by decide)) (GW.fpp (a := 69) (k := 0) (v := 0) hG) hTB hI (z) hg0 (by omega)) ?_
        rintro _ G4 ⟨rfl, x5, hs6, y7⟩
        have rk8 := RKX.rxs (RKX.fp RKX.rf (Or.inl rfl)) x5
        have hk9 := HSX.same (HSX.same hH b3 (fp_ne (Or.inr (by decide))) (fun k => fp_ne (Or.inl (by decide)))) b3 (x5.2.1 25 (by decide) (by decide)) (fun k => x5.1.1 77 k (by decide))
        refine (show Pv _ _ 49 [some (.ref 69), some (.int (Int32.ofNat k)), some (.int z)] [.int (Int32.ofNat (h_d (m_drawn T (S, z) k).1 - h_d S))] G4 Q from ?_)
        exact Pv.ret rfl (by rw [hQ]; exact ⟨by unfold a_drawn; rw [hn]; dsimp only; rw [if_neg (by omega)]; exact congrArg (fun q => some (Value.int q)) (i_subN (drawn_ge T S z k)).symm, rk8, HKX.f hk9 (by rw [hn, decide_eq_true (show 0 < t_g T by omega)]; exact decide_eq_false (by omega)), by unfold m_dwn; rw [hn]; dsimp only; rw [if_neg (by omega)]; exact hs6⟩)
      · skip
        replace c3 := mt (i_le (a := 400) (b := h_d S) (by omega) (by omega)).mpr (of_decide_eq_false c3)
        refine Pv.aload rfl rfl ?_
        refine Pv.callV (as := [.ref 69]) (rest := []) rfl rfl rfl (g_keep b3 (XS.sd (a := 69) (k := 0) (v := 0) hS b3 (by decide)) (GW.fpp (a := 69) (k := 0) (v := 0) hG) (HSX.same hH b3 (fp_ne (Or.inr (by decide))) (fun k => fp_ne (Or.inl (by decide))))) ?_
        rintro _ G10 ⟨rfl, x11, x12, x13, hk14⟩
        have rk15 := RKX.kp (RKX.fp RKX.rf (Or.inl rfl)) x11 x12 x13
        have hs16 := XS.of (XS.sd (a := 69) (k := 0) (v := 0) hS b3 (by decide)) b3 (fun k _ _ => x12 k)
        have hx17 := RKX.T rk15 hT
        have hx18 := RKX.G rk15 hG
        refine (show Pv _ _ 43 [some (.ref 69), some (.int (Int32.ofNat k)), some (.int z)] [] G10 Q from ?_)
        refine Pv.aload rfl rfl ?_
        refine Pv.iload rfl rfl ?_
        refine Pv.iload rfl rfl ?_
        refine Pv.callV (as := [.ref 69, .int (Int32.ofNat k), .int z]) (rest := []) rfl rfl rfl (g_draws (n := k) hx17 hs16 hx18 hTB hI (z) hg0 (by omega)) ?_
        rintro _ G19 ⟨rfl, x20, hs21, y22⟩
        have rk23 := RKX.rxs rk15 x20
        have hk24 := HSX.same hk14 b3 (x20.2.1 25 (by decide) (by decide)) (fun k => x20.1.1 77 k (by decide))
        refine (show Pv _ _ 49 [some (.ref 69), some (.int (Int32.ofNat k)), some (.int z)] [.int (Int32.ofNat (h_d (m_drawn T (S, z) k).1 - h_d S))] G19 Q from ?_)
        exact Pv.ret rfl (by rw [hQ]; exact ⟨by unfold a_drawn; rw [hn]; dsimp only; rw [if_neg (by omega)]; exact congrArg (fun q => some (Value.int q)) (i_subN (drawn_ge T S z k)).symm, rk23, HKX.t hk24 (by rw [hn, decide_eq_true (show 0 < t_g T by omega)]; exact decide_eq_true (by omega)), by unfold m_dwn; rw [hn]; dsimp only; rw [if_neg (by omega)]; exact hs21⟩)
    · skip
      replace c2 : decide (Int32.ofNat (t_g T) = 0) = true := by simpa using c2
      replace c2 := (i_eq (a := t_g T) (b := 0) (by omega) (by omega)).mp (of_decide_eq_true c2)
      refine Pv.lit rfl ?_
      exact Pv.ret rfl (by rw [hQ]; exact ⟨by unfold a_drawn; rw [hn]; dsimp only; rw [if_pos (by omega)], (RKX.fp RKX.rf (Or.inl rfl)), HKX.f (HSX.same hH b3 (fp_ne (Or.inr (by decide))) (fun k => fp_ne (Or.inl (by decide)))) (by rw [hn, decide_eq_false (show ¬ 0 < t_g T by omega)]; rfl), by unfold m_dwn; rw [hn]; dsimp only; rw [if_pos (by omega)]; exact XS.sd hS b3 (by decide)⟩)
