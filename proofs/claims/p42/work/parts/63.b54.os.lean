set_option maxRecDepth 100000 in
set_option maxHeartbeats 4000000 in
theorem o_isWithin {F : FW} (x z : Int32) : Pm Z_X10_isWithin [.int x, .int z] F (fun r F' => r = some (.int (b2i (decide (1 ≤ x) && decide (x ≤ z)))) ∧ F' = F) := by
  refine Pm.of fun N => ?_
  obtain ⟨Q, hQ⟩ : ∃ Q : Option Value → FW → Prop, Q = (fun r F' => r = some (.int (b2i (decide (1 ≤ x) && decide (x ≤ z)))) ∧ F' = F) := ⟨_, rfl⟩
  rw [← hQ]
  refine (show Pv (ab_T L_X10_isWithin) N 0 [some (.int x), some (.int z)] [] F Q from ?_)
  refine Pv.iload rfl rfl ?_
  refine Pv.lit rfl ?_
  refine Pv.icmp rfl (fun c1 => ?_) (fun c1 => ?_)
  · skip
    replace c1 := of_decide_eq_true c1
    refine Pv.lit rfl ?_
    exact Pv.zret rfl (by rw [hQ]; exact ⟨b2_f (by rw [decide_eq_false (Int32.not_le.mpr c1)]; rfl), rfl⟩)
  · skip
    replace c1 := of_decide_eq_false c1
    refine Pv.iload rfl rfl ?_
    refine Pv.iload rfl rfl ?_
    refine Pv.icmp rfl (fun c2 => ?_) (fun c2 => ?_)
    · skip
      replace c2 := of_decide_eq_true c2
      refine Pv.lit rfl ?_
      exact Pv.zret rfl (by rw [hQ]; exact ⟨b2_f (by rw [decide_eq_false (Int32.not_le.mpr c2), Bool.and_false]), rfl⟩)
    · skip
      replace c2 := of_decide_eq_false c2
      refine Pv.lit rfl ?_
      refine Pv.goto rfl ?_
      exact Pv.zret rfl (by rw [hQ]; exact ⟨b2_t (by rw [decide_eq_true (Int32.not_lt.mp c1), decide_eq_true (Int32.not_lt.mp c2)]; rfl), rfl⟩)
set_option maxRecDepth 100000 in
set_option maxHeartbeats 4000000 in
theorem o_loads {F : FW} {t : Nat} {T : St} {S : Sh} (hG : GW F) (ht : F.2.1 0 13 = .ref t) (hT : TR F t T) (hS : SHR F 12 (t_m T) S) (j0 : t = 45 ∨ t = 53) (x : Int32) : Pm Z_X10_loads [.ref 0, .int x] F (fun r F' => r = some (.int (a_loads T S x)) ∧ CDR F F') := by
  refine Pm.of fun N => ?_
  obtain ⟨Q, hQ⟩ : ∃ Q : Option Value → FW → Prop, Q = (fun r F' => r = some (.int (a_loads T S x)) ∧ CDR F F') := ⟨_, rfl⟩
  rw [← hQ]
  have b3 := hT.mb
  have b4 := hT.nb
  have b5 := hT.gb
  have b6 := m_from_lt S
  have b7 := hS.db
  refine (show Pv (ab_T (L_X10_loads Z_X10_isWithin Z_X6_copyFrom Z_X1_passDays)) N 0 [some (.ref 0), some (.int x)] [] F Q from ?_)
  refine Pv.iload rfl rfl ?_
  refine Pv.lit rfl ?_
  refine Pv.callI (as := [.int x, .int 60]) (rest := []) (z := b2i (decide (1 ≤ x) && decide (x ≤ 60))) rfl rfl rfl ((o_isWithin x 60)) ?_
  refine Pv.if0 rfl (fun c1 => ?_) (fun c1 => ?_)
  · skip
    replace c1 : decide (b2i (decide (1 ≤ x) && decide (x ≤ 60)) = 0) = false := by simpa using c1
    replace c1 := of_decide_eq_false c1
    replace c1 := b2n.mp c1
    obtain ⟨n, hn, hna, hnb, rfl⟩ := ndr_t ((ndr_in (a := 1) (b := 60) (by omega) (by omega)).symm.trans c1)
    refine Pv.aload rfl rfl ?_
    refine Pv.getR (v := .ref 20) rfl rfl (GW.at (a := 0) (k := 5) (b := 20) hG (by decide)) ?_
    refine Pv.aload rfl rfl ?_
    refine Pv.getR (v := .ref 12) rfl rfl (GW.at (a := 0) (k := 4) (b := 12) hG (by decide)) ?_
    refine Pv.callV (as := [.ref 20, .ref 12]) (rest := []) rfl rfl rfl (f_shCopy (GW.o20 hG) hS b3 (by omega)) ?_
    rintro _ G2 ⟨rfl, x3, sr5⟩
    have hx4 := FX.tr (P := fun q => (7 ≤ q ∧ q ≤ 9) ∨ (20 ≤ q ∧ q ≤ 35) ∨ q = 40 ∨ q = 43) FX.rf (x3.wd (fun q (c : 20 ≤ q ∧ q ≤ 20 + 7) => (show (7 ≤ q ∧ q ≤ 9) ∨ (20 ≤ q ∧ q ≤ 35) ∨ q = 40 ∨ q = 43 by omega)))
    have hx6 := hT.fx (P := fun q => 20 ≤ q ∧ q ≤ 20 + 7) x3 (fun q h1 h2 (c : 20 ≤ q ∧ q ≤ 20 + 7) => by omega)
    have hx7 := hS.fx (P := fun q => 20 ≤ q ∧ q ≤ 20 + 7) x3 (fun q h1 h2 (c : 20 ≤ q ∧ q ≤ 20 + 7) => by omega)
    have hx8 := hG.fx (P := fun q => 20 ≤ q ∧ q ≤ 20 + 7) x3
    have hr9 : G2.2.1 0 13 = .ref t := by rw [x3.2.2.1]; exact ht
    refine (show Pv _ _ 22 [some (.ref 0), some (.int (Int32.ofNat n))] [] G2 Q from ?_)
    refine Pv.aload rfl rfl ?_
    refine Pv.getR (v := .ref 7) rfl rfl (GW.at (a := 0) (k := 2) (b := 7) hx8 (by decide)) ?_
    refine Pv.aload rfl rfl ?_
    refine Pv.getR (v := .ref t) rfl rfl (hr9) ?_
    refine Pv.aload rfl rfl ?_
    refine Pv.getR (v := .ref 20) rfl rfl (GW.at (a := 0) (k := 5) (b := 20) hx8 (by decide)) ?_
    refine Pv.iload rfl rfl ?_
    refine Pv.callV (as := [.ref 7, .ref t, .ref 20, .int (Int32.ofNat n)]) (rest := []) rfl rfl rfl (f_passDays (n := n) hx6 sr5 hx8 (by omega) (by omega) (by omega) (by omega)) ?_
    rintro _ G10 ⟨rfl, x11, sr13, pl14⟩
    have hx12 := FX.tr (P := fun q => (7 ≤ q ∧ q ≤ 9) ∨ (20 ≤ q ∧ q ≤ 35) ∨ q = 40 ∨ q = 43) hx4 (x11.wd (fun q (c : (20 ≤ q ∧ q ≤ 20 + 7) ∨ (7 ≤ q ∧ q ≤ 9)) => (show (7 ≤ q ∧ q ≤ 9) ∨ (20 ≤ q ∧ q ≤ 35) ∨ q = 40 ∨ q = 43 by omega)))
    have hx15 := hx6.fx (P := fun q => (20 ≤ q ∧ q ≤ 20 + 7) ∨ (7 ≤ q ∧ q ≤ 9)) x11 (fun q h1 h2 (c : (20 ≤ q ∧ q ≤ 20 + 7) ∨ (7 ≤ q ∧ q ≤ 9)) => by omega)
    have hx16 := hx7.fx (P := fun q => (20 ≤ q ∧ q ≤ 20 + 7) ∨ (7 ≤ q ∧ q ≤ 9)) x11 (fun q h1 h2 (c : (20 ≤ q ∧ q ≤ 20 + 7) ∨ (7 ≤ q ∧ q ≤ 9)) => by omega)
    have hx17 := hx8.fx (P := fun q => (20 ≤ q ∧ q ≤ 20 + 7) ∨ (7 ≤ q ∧ q ≤ 9)) x11
    have hr18 : G10.2.1 0 13 = .ref t := by rw [x11.2.2.1]; exact hr9
    refine (show Pv _ _ 38 [some (.ref 0), some (.int (Int32.ofNat n))] [.int (Int32.ofNat (h_d (m_days T S n)) - Int32.ofNat (h_d S))] G10 Q from ?_)
    refine Pv.pop rfl ?_
    refine Pv.aload rfl rfl ?_
    refine Pv.getR (v := .ref 20) rfl rfl (GW.at (a := 0) (k := 5) (b := 20) hx17 (by decide)) ?_
    refine Pv.getI (z := h_r (m_days T S n)) rfl rfl (sr13.r) ?_
    refine Pv.aload rfl rfl ?_
    refine Pv.getR (v := .ref 12) rfl rfl (GW.at (a := 0) (k := 4) (b := 12) hx17 (by decide)) ?_
    refine Pv.getI (z := h_r S) rfl rfl (hx16.r) ?_
    refine Pv.bin (z := (h_r (m_days T S n)) - (h_r S)) rfl (rfl) ?_
    exact Pv.ret rfl (by rw [hQ]; exact ⟨by unfold a_loads; rw [hn], hx12⟩)
  · skip
    replace c1 : decide (b2i (decide (1 ≤ x) && decide (x ≤ 60)) = 0) = true := by simpa using c1
    replace c1 := of_decide_eq_true c1
    replace c1 := b2z.mp c1
    refine Pv.lit rfl ?_
    exact Pv.ret rfl (by rw [hQ]; exact ⟨by unfold a_loads; rw [ndr_f ((ndr_in (a := 1) (b := 60) (by omega) (by omega)).symm.trans c1)], FX.rf⟩)
set_option maxRecDepth 100000 in
set_option maxHeartbeats 4000000 in
theorem o_hunger {F : FW} {t : Nat} {T : St} {S : Sh} (hG : GW F) (ht : F.2.1 0 13 = .ref t) (hT : TR F t T) (hS : SHR F 12 (t_m T) S) (j0 : t = 45 ∨ t = 53) (x y z : Int32) : Pm Z_X10_hunger [.ref 0, .int x, .int y, .int z] F (fun r F' => r = some (.int (a_hunger T S x y z)) ∧ CDR F F') := by
  refine Pm.of fun N => ?_
  obtain ⟨Q, hQ⟩ : ∃ Q : Option Value → FW → Prop, Q = (fun r F' => r = some (.int (a_hunger T S x y z)) ∧ CDR F F') := ⟨_, rfl⟩
  rw [← hQ]
  have b3 := hT.mb
  have b4 := hT.nb
  have b5 := hT.gb
  have b6 := m_from_lt S
  have b7 := hS.db
  refine (show Pv (ab_T (L_X10_hunger Z_X10_isSlot Z_X10_isWithin Z_X10_slotOf Z_X6_copyFrom Z_X1_passDays)) N 0 [some (.ref 0), some (.int x), some (.int y), some (.int z), none] [] F Q from ?_)
  refine Pv.aload rfl rfl ?_
  refine Pv.iload rfl rfl ?_
  refine Pv.iload rfl rfl ?_
  refine Pv.callVI (as := [.ref 0, .int x, .int y]) (rest := []) (z := b2i ((nd (t_g T) x).isSome && (nd 2 y).isSome)) rfl rfl rfl (o_isSlot hG ht hT hS j0 x y) ?_
  refine Pv.if0 rfl (fun c1 => ?_) (fun c1 => ?_)
  · skip
    replace c1 := of_decide_eq_true c1
    replace c1 := b2z.mp c1
    refine Pv.lit rfl ?_
    exact Pv.ret rfl (by rw [hQ]; exact ⟨by unfold a_hunger; rw [aGS_f c1], FX.rf⟩)
  · skip
    replace c1 := of_decide_eq_false c1
    replace c1 := b2n.mp c1
    obtain ⟨g, s, hg, hs, hgl, hsl, rfl, rfl⟩ := gs_t c1
    refine Pv.iload rfl rfl ?_
    refine Pv.lit rfl ?_
    refine Pv.callI (as := [.int z, .int 60]) (rest := []) (z := b2i (decide (1 ≤ z) && decide (z ≤ 60))) rfl rfl rfl ((o_isWithin z 60)) ?_
    refine Pv.if0 rfl (fun c2 => ?_) (fun c2 => ?_)
    · skip
      replace c2 : decide (b2i (decide (1 ≤ z) && decide (z ≤ 60)) = 0) = false := by simpa using c2
      replace c2 := of_decide_eq_false c2
      replace c2 := b2n.mp c2
      obtain ⟨n, hn, hna, hnb, rfl⟩ := ndr_t ((ndr_in (a := 1) (b := 60) (by omega) (by omega)).symm.trans c2)
      refine Pv.iload rfl rfl ?_
      refine Pv.iload rfl rfl ?_
      refine Pv.callI (as := [.int (Int32.ofNat g), .int (Int32.ofNat s)]) (rest := []) (z := Int32.ofNat (2 * g + s)) rfl rfl rfl (f_slotOf (g := g) (s := s)) ?_
      refine Pv.istore (lo' := [some (.ref 0), some (.int (Int32.ofNat g)), some (.int (Int32.ofNat s)), some (.int (Int32.ofNat n)), some (.int (Int32.ofNat (2 * g + s)))]) rfl rfl ?_
      refine Pv.aload rfl rfl ?_
      refine Pv.getR (v := .ref 20) rfl rfl (GW.at (a := 0) (k := 5) (b := 20) hG (by decide)) ?_
      refine Pv.aload rfl rfl ?_
      refine Pv.getR (v := .ref 12) rfl rfl (GW.at (a := 0) (k := 4) (b := 12) hG (by decide)) ?_
      refine Pv.callV (as := [.ref 20, .ref 12]) (rest := []) rfl rfl rfl (f_shCopy (GW.o20 hG) hS b3 (by omega)) ?_
      rintro _ G3 ⟨rfl, x4, sr6⟩
      have hx5 := FX.tr (P := fun q => (7 ≤ q ∧ q ≤ 9) ∨ (20 ≤ q ∧ q ≤ 35) ∨ q = 40 ∨ q = 43) FX.rf (x4.wd (fun q (c : 20 ≤ q ∧ q ≤ 20 + 7) => (show (7 ≤ q ∧ q ≤ 9) ∨ (20 ≤ q ∧ q ≤ 35) ∨ q = 40 ∨ q = 43 by omega)))
      have hx7 := hT.fx (P := fun q => 20 ≤ q ∧ q ≤ 20 + 7) x4 (fun q h1 h2 (c : 20 ≤ q ∧ q ≤ 20 + 7) => by omega)
      have hx8 := hS.fx (P := fun q => 20 ≤ q ∧ q ≤ 20 + 7) x4 (fun q h1 h2 (c : 20 ≤ q ∧ q ≤ 20 + 7) => by omega)
      have hx9 := hG.fx (P := fun q => 20 ≤ q ∧ q ≤ 20 + 7) x4
      have hr10 : G3.2.1 0 13 = .ref t := by rw [x4.2.2.1]; exact ht
      refine (show Pv _ _ 38 [some (.ref 0), some (.int (Int32.ofNat g)), some (.int (Int32.ofNat s)), some (.int (Int32.ofNat n)), some (.int (Int32.ofNat (2 * g + s)))] [] G3 Q from ?_)
      refine Pv.aload rfl rfl ?_
      refine Pv.getR (v := .ref 7) rfl rfl (GW.at (a := 0) (k := 2) (b := 7) hx9 (by decide)) ?_
      refine Pv.aload rfl rfl ?_
      refine Pv.getR (v := .ref t) rfl rfl (hr10) ?_
      refine Pv.aload rfl rfl ?_
      refine Pv.getR (v := .ref 20) rfl rfl (GW.at (a := 0) (k := 5) (b := 20) hx9 (by decide)) ?_
      refine Pv.iload rfl rfl ?_
      refine Pv.callV (as := [.ref 7, .ref t, .ref 20, .int (Int32.ofNat n)]) (rest := []) rfl rfl rfl (f_passDays (n := n) hx7 sr6 hx9 (by omega) (by omega) (by omega) (by omega)) ?_
      rintro _ G11 ⟨rfl, x12, sr14, pl15⟩
      have hx13 := FX.tr (P := fun q => (7 ≤ q ∧ q ≤ 9) ∨ (20 ≤ q ∧ q ≤ 35) ∨ q = 40 ∨ q = 43) hx5 (x12.wd (fun q (c : (20 ≤ q ∧ q ≤ 20 + 7) ∨ (7 ≤ q ∧ q ≤ 9)) => (show (7 ≤ q ∧ q ≤ 9) ∨ (20 ≤ q ∧ q ≤ 35) ∨ q = 40 ∨ q = 43 by omega)))
      have hx16 := hx7.fx (P := fun q => (20 ≤ q ∧ q ≤ 20 + 7) ∨ (7 ≤ q ∧ q ≤ 9)) x12 (fun q h1 h2 (c : (20 ≤ q ∧ q ≤ 20 + 7) ∨ (7 ≤ q ∧ q ≤ 9)) => by omega)
      have hx17 := hx8.fx (P := fun q => (20 ≤ q ∧ q ≤ 20 + 7) ∨ (7 ≤ q ∧ q ≤ 9)) x12 (fun q h1 h2 (c : (20 ≤ q ∧ q ≤ 20 + 7) ∨ (7 ≤ q ∧ q ≤ 9)) => by omega)
      have hx18 := hx9.fx (P := fun q => (20 ≤ q ∧ q ≤ 20 + 7) ∨ (7 ≤ q ∧ q ≤ 9)) x12
      have hr19 : G11.2.1 0 13 = .ref t := by rw [x12.2.2.1]; exact hr10
      refine (show Pv _ _ 54 [some (.ref 0), some (.int (Int32.ofNat g)), some (.int (Int32.ofNat s)), some (.int (Int32.ofNat n)), some (.int (Int32.ofNat (2 * g + s)))] [.int (Int32.ofNat (h_d (m_days T S n)) - Int32.ofNat (h_d S))] G11 Q from ?_)
      refine Pv.pop rfl ?_
      refine Pv.aload rfl rfl ?_
      refine Pv.getR (v := .ref 20) rfl rfl (GW.at (a := 0) (k := 5) (b := 20) hx18 (by decide)) ?_
      refine Pv.getR (v := .ref 23) rfl rfl (sr14.o 2 (by decide)) ?_
      refine Pv.iload rfl rfl ?_
      refine Pv.ald (z := h_u (m_days T S n) (2 * g + s)) rfl (by rw [i_toNat (by omega)]; exact sr14.u _ (by omega)) ?_
      refine Pv.aload rfl rfl ?_
      refine Pv.getR (v := .ref 12) rfl rfl (GW.at (a := 0) (k := 4) (b := 12) hx18 (by decide)) ?_
      refine Pv.getR (v := .ref 15) rfl rfl (hx17.o 2 (by decide)) ?_
      refine Pv.iload rfl rfl ?_
      refine Pv.ald (z := h_u S (2 * g + s)) rfl (by rw [i_toNat (by omega)]; exact hx17.u _ (by omega)) ?_
      refine Pv.bin (z := (h_u (m_days T S n) (2 * g + s)) - (h_u S (2 * g + s))) rfl (rfl) ?_
      exact Pv.ret rfl (by rw [hQ]; exact ⟨by unfold a_hunger; rw [aGS_t hg hs, hn], hx13⟩)
    · skip
      replace c2 : decide (b2i (decide (1 ≤ z) && decide (z ≤ 60)) = 0) = true := by simpa using c2
      replace c2 := of_decide_eq_true c2
      replace c2 := b2z.mp c2
      refine Pv.lit rfl ?_
      exact Pv.ret rfl (by rw [hQ]; exact ⟨by unfold a_hunger; rw [aGS_t hg hs, ndr_f ((ndr_in (a := 1) (b := 60) (by omega) (by omega)).symm.trans c2)], FX.rf⟩)
set_option maxRecDepth 100000 in
set_option maxHeartbeats 4000000 in
theorem o_crosses {F : FW} {t : Nat} {T : St} {S : Sh} (hG : GW F) (ht : F.2.1 0 13 = .ref t) (hT : TR F t T) (hS : SHR F 12 (t_m T) S) (j0 : t = 45 ∨ t = 53) (x : Int32) : Pm Z_X10_crosses [.ref 0, .int x] F (fun r F' => r = some (.int (a_crosses T S x)) ∧ CDR F F') := by
  refine Pm.of fun N => ?_
  obtain ⟨Q, hQ⟩ : ∃ Q : Option Value → FW → Prop, Q = (fun r F' => r = some (.int (a_crosses T S x)) ∧ CDR F F') := ⟨_, rfl⟩
  rw [← hQ]
  have b3 := hT.mb
  have b4 := hT.nb
  have b5 := hT.gb
  have b6 := m_from_lt S
  have b7 := hS.db
  refine (show Pv (ab_T (L_X10_crosses Z_X10_isMan Z_X6_isAlive Z_X6_copyFrom Z_X1_passDays)) N 0 [some (.ref 0), some (.int x), none, none] [] F Q from ?_)
  refine Pv.aload rfl rfl ?_
  refine Pv.iload rfl rfl ?_
  refine Pv.callVI (as := [.ref 0, .int x]) (rest := []) (z := b2i (nd (t_m T) x).isSome) rfl rfl rfl (o_isMan hG ht hT hS j0 x) ?_
  refine Pv.if0 rfl (fun c1 => ?_) (fun c1 => ?_)
  · skip
    replace c1 := of_decide_eq_true c1
    replace c1 := b2z.mp c1
    refine Pv.lit rfl ?_
    exact Pv.ret rfl (by rw [hQ]; exact ⟨by unfold a_crosses; rw [nd_f c1], FX.rf⟩)
  · skip
    replace c1 := of_decide_eq_false c1
    replace c1 := b2n.mp c1
    obtain ⟨m, hm, hml, rfl⟩ := nd_t c1
    refine Pv.aload rfl rfl ?_
    refine Pv.getR (v := .ref 12) rfl rfl (GW.at (a := 0) (k := 4) (b := 12) hG (by decide)) ?_
    refine Pv.iload rfl rfl ?_
    refine Pv.callVI (as := [.ref 12, .int (Int32.ofNat m)]) (rest := []) (z := b2i (m_alive S m)) rfl rfl rfl (f_isAlive (m := m) hS (by omega) (by omega)) ?_
    refine Pv.if0 rfl (fun c2 => ?_) (fun c2 => ?_)
    · skip
      replace c2 : decide (b2i (m_alive S m) = 0) = false := by simpa using c2
      replace c2 := of_decide_eq_false c2
      replace c2 := b2n.mp c2
      have al := c2
      refine Pv.aload rfl rfl ?_
      refine Pv.getR (v := .ref 20) rfl rfl (GW.at (a := 0) (k := 5) (b := 20) hG (by decide)) ?_
      refine Pv.aload rfl rfl ?_
      refine Pv.getR (v := .ref 12) rfl rfl (GW.at (a := 0) (k := 4) (b := 12) hG (by decide)) ?_
      refine Pv.callV (as := [.ref 20, .ref 12]) (rest := []) rfl rfl rfl (f_shCopy (GW.o20 hG) hS b3 (by omega)) ?_
      rintro _ G3 ⟨rfl, x4, sr6⟩
      have hx5 := FX.tr (P := fun q => (7 ≤ q ∧ q ≤ 9) ∨ (20 ≤ q ∧ q ≤ 35) ∨ q = 40 ∨ q = 43) FX.rf (x4.wd (fun q (c : 20 ≤ q ∧ q ≤ 20 + 7) => (show (7 ≤ q ∧ q ≤ 9) ∨ (20 ≤ q ∧ q ≤ 35) ∨ q = 40 ∨ q = 43 by omega)))
      have hx7 := hT.fx (P := fun q => 20 ≤ q ∧ q ≤ 20 + 7) x4 (fun q h1 h2 (c : 20 ≤ q ∧ q ≤ 20 + 7) => by omega)
      have hx8 := hS.fx (P := fun q => 20 ≤ q ∧ q ≤ 20 + 7) x4 (fun q h1 h2 (c : 20 ≤ q ∧ q ≤ 20 + 7) => by omega)
      have hx9 := hG.fx (P := fun q => 20 ≤ q ∧ q ≤ 20 + 7) x4
      have hr10 : G3.2.1 0 13 = .ref t := by rw [x4.2.2.1]; exact ht
      refine (show Pv _ _ 32 [some (.ref 0), some (.int (Int32.ofNat m)), none, none] [] G3 Q from ?_)
      refine Pv.lit rfl ?_
      refine Pv.istore (lo' := [some (.ref 0), some (.int (Int32.ofNat m)), some (.int 0), none]) rfl rfl ?_
      refine Pv.lp (ι := Nat × FW × (Option Value)) (lof := fun ⟨k, G, o11⟩ => [some (.ref 0), some (.int (Int32.ofNat m)), some (.int (Int32.ofNat k)), o11]) (Ff := fun ⟨k, G, o11⟩ => G) (P := fun ⟨k, G, o11⟩ => k ≤ 100 ∧ FX (fun q => (7 ≤ q ∧ q ≤ 9) ∨ (20 ≤ q ∧ q ≤ 35) ∨ q = 40 ∨ q = 43) F G ∧ SHR G 20 (t_m T) (m_days T S k) ∧ m_fst (pCross T S m) k = none) ?_ (0, G3, none) (⟨Nat.zero_le _, hx5, sr6, rfl⟩)
      rintro N12 hN13 ⟨k, G, o11⟩ hi14 ih15
      refine (show Pv _ _ 34 [some (.ref 0), some (.int (Int32.ofNat m)), some (.int (Int32.ofNat k)), o11] [] G Q from ?_)
      obtain ⟨hk, hxG, hA, hb⟩ := hi14
      have hx16 := hT.fx (P := fun q => (7 ≤ q ∧ q ≤ 9) ∨ (20 ≤ q ∧ q ≤ 35) ∨ q = 40 ∨ q = 43) hxG (fun q h1 h2 (c : (7 ≤ q ∧ q ≤ 9) ∨ (20 ≤ q ∧ q ≤ 35) ∨ q = 40 ∨ q = 43) => by omega)
      have hx17 := hS.fx (P := fun q => (7 ≤ q ∧ q ≤ 9) ∨ (20 ≤ q ∧ q ≤ 35) ∨ q = 40 ∨ q = 43) hxG (fun q h1 h2 (c : (7 ≤ q ∧ q ≤ 9) ∨ (20 ≤ q ∧ q ≤ 35) ∨ q = 40 ∨ q = 43) => by omega)
      have hx18 := hG.fx (P := fun q => (7 ≤ q ∧ q ≤ 9) ∨ (20 ≤ q ∧ q ≤ 35) ∨ q = 40 ∨ q = 43) hxG
      have hx19 : G.2.1 0 13 = .ref t := by rw [hxG.2.2.1]; exact ht
      have bD := hA.db
      refine Pv.iloadS rfl rfl ?_
      refine Pv.lit rfl ?_
      refine Pv.icmp rfl (fun c20 => ?_) (fun c20 => ?_)
      · skip
        replace c20 := (i_le (a := 100) (b := k) (by omega) (by omega)).mp (of_decide_eq_true c20)
        refine Pv.lit rfl ?_
        exact Pv.ret rfl (by rw [hQ]; exact ⟨by unfold a_crosses; rw [hm]; dsimp only; rw [if_pos al, show 100 = k by omega, hb]; rfl, hxG⟩)
      · skip
        replace c20 := mt (i_le (a := 100) (b := k) (by omega) (by omega)).mpr (of_decide_eq_false c20)
        refine Pv.aload rfl rfl ?_
        refine Pv.getR (v := .ref 20) rfl rfl (GW.at (a := 0) (k := 5) (b := 20) hx18 (by decide)) ?_
        refine Pv.getI (z := Int32.ofNat (h_d (m_days T S k))) rfl rfl (hA.d) ?_
        refine Pv.lit rfl ?_
        refine Pv.icmp rfl (fun c21 => ?_) (fun c21 => ?_)
        · skip
          replace c21 := (i_le (a := 400) (b := h_d (m_days T S k)) (by omega) (by omega)).mp (of_decide_eq_true c21)
          refine Pv.lit rfl ?_
          exact Pv.ret rfl (by rw [hQ]; exact ⟨by unfold a_crosses; rw [hm]; dsimp only; rw [if_pos al, m_fst_z hb (by omega) (fun i hi => by unfold pCross; rw [decide_eq_false (by rw [m_days_400 (by omega) hi]; omega)]; rfl)]; rfl, hxG⟩)
        · skip
          replace c21 := mt (i_le (a := 400) (b := h_d (m_days T S k)) (by omega) (by omega)).mpr (of_decide_eq_false c21)
          refine Pv.aload rfl rfl ?_
          refine Pv.getR (v := .ref 20) rfl rfl (GW.at (a := 0) (k := 5) (b := 20) hx18 (by decide)) ?_
          refine Pv.getI (z := Int32.ofNat (h_d (m_days T S k))) rfl rfl (hA.d) ?_
          refine Pv.istore (lo' := [some (.ref 0), some (.int (Int32.ofNat m)), some (.int (Int32.ofNat k)), some (.int (Int32.ofNat (h_d (m_days T S k))))]) rfl rfl ?_
          refine Pv.aload rfl rfl ?_
          refine Pv.getR (v := .ref 7) rfl rfl (GW.at (a := 0) (k := 2) (b := 7) hx18 (by decide)) ?_
          refine Pv.aload rfl rfl ?_
          refine Pv.getR (v := .ref t) rfl rfl (hx19) ?_
          refine Pv.aload rfl rfl ?_
          refine Pv.getR (v := .ref 20) rfl rfl (GW.at (a := 0) (k := 5) (b := 20) hx18 (by decide)) ?_
          refine Pv.lit rfl ?_
          refine Pv.callV (as := [.ref 7, .ref t, .ref 20, .int 1]) (rest := []) rfl rfl rfl (f_passDays (n := 1) hx16 hA hx18 (by omega) (by omega) (by omega) (by omega)) ?_
          rintro _ G22 ⟨rfl, x23, sr25, pl26⟩
          have hx24 := FX.tr (P := fun q => (7 ≤ q ∧ q ≤ 9) ∨ (20 ≤ q ∧ q ≤ 35) ∨ q = 40 ∨ q = 43) hxG (x23.wd (fun q (c : (20 ≤ q ∧ q ≤ 20 + 7) ∨ (7 ≤ q ∧ q ≤ 9)) => (show (7 ≤ q ∧ q ≤ 9) ∨ (20 ≤ q ∧ q ≤ 35) ∨ q = 40 ∨ q = 43 by omega)))
          have hx27 := hx16.fx (P := fun q => (20 ≤ q ∧ q ≤ 20 + 7) ∨ (7 ≤ q ∧ q ≤ 9)) x23 (fun q h1 h2 (c : (20 ≤ q ∧ q ≤ 20 + 7) ∨ (7 ≤ q ∧ q ≤ 9)) => by omega)
          have hx28 := hx17.fx (P := fun q => (20 ≤ q ∧ q ≤ 20 + 7) ∨ (7 ≤ q ∧ q ≤ 9)) x23 (fun q h1 h2 (c : (20 ≤ q ∧ q ≤ 20 + 7) ∨ (7 ≤ q ∧ q ≤ 9)) => by omega)
          have hx29 := hx18.fx (P := fun q => (20 ≤ q ∧ q ≤ 20 + 7) ∨ (7 ≤ q ∧ q ≤ 9)) x23
          have hr30 : G22.2.1 0 13 = .ref t := by rw [x23.2.2.1]; exact hx19
          refine (show Pv _ _ 77 [some (.ref 0), some (.int (Int32.ofNat m)), some (.int (Int32.ofNat k)), some (.int (Int32.ofNat (h_d (m_days T S k))))] [.int (Int32.ofNat (h_d (m_days T (m_days T S k) 1)) - Int32.ofNat (h_d (m_days T S k)))] G22 Q from ?_)
          have hP := pl26 0 rfl (by show h_d (m_days T S k) < 400; omega)
          have hq31 : SHR G22 20 (t_m T) (m_day T (m_days T S k)) := by have q := sr25; rw [show m_days T (m_days T S k) 1 = m_day T (m_days T S k) from if_pos (by show h_d (m_days T S k) < 400; omega)] at q; exact q
          refine Pv.pop rfl ?_
          refine Pv.aload rfl rfl ?_
          refine Pv.getR (v := .ref 7) rfl rfl (GW.at (a := 0) (k := 2) (b := 7) hx29 (by decide)) ?_
          refine Pv.getI (z := m_board T (m_days T S k)) rfl rfl (hP.1) ?_
          refine Pv.lit rfl ?_
          refine Pv.iload rfl rfl ?_
          refine Pv.bin (z := 1 <<< ((Int32.ofNat m) &&& 31)) rfl (rfl) ?_
          refine Pv.bin (z := (m_board T (m_days T S k)) &&& (1 <<< ((Int32.ofNat m) &&& 31))) rfl (rfl) ?_
          refine Pv.if0 rfl (fun c32 => ?_) (fun c32 => ?_)
          · skip
            replace c32 := of_decide_eq_true c32
            refine Pv.iinc (y := Int32.ofNat (k + 1)) (lo' := [some (.ref 0), some (.int (Int32.ofNat m)), some (.int (Int32.ofNat (k + 1))), some (.int (Int32.ofNat (h_d (m_days T S k))))]) rfl rfl (i_add k 1) rfl ?_
            refine Pv.goto rfl ?_
            exact ih15 (k + 1, G22, (some (.int (Int32.ofNat (h_d (m_days T S k)))))) (⟨by omega, hx24, by rw [m_days_s (by omega)]; exact hq31, m_fst_n hb (by unfold pCross m_bit; simp [c32])⟩)
          · skip
            replace c32 := of_decide_eq_false c32
            refine Pv.iload rfl rfl ?_
            exact Pv.ret rfl (by rw [hQ]; exact ⟨by unfold a_crosses; rw [hm]; dsimp only; rw [if_pos al, m_fst_e hb (by unfold pCross m_bit; simp [c32]; omega) (by omega)]; rfl, hx24⟩)
    · skip
      replace c2 : decide (b2i (m_alive S m) = 0) = true := by simpa using c2
      replace c2 := of_decide_eq_true c2
      replace c2 := b2z.mp c2
      refine Pv.lit rfl ?_
      exact Pv.ret rfl (by rw [hQ]; exact ⟨by unfold a_crosses; rw [hm]; dsimp only; rw [if_neg (by rw [c2]; decide)], FX.rf⟩)
set_option maxRecDepth 100000 in
set_option maxHeartbeats 4000000 in
theorem o_comes {F : FW} {t : Nat} {T : St} {S : Sh} (hG : GW F) (ht : F.2.1 0 13 = .ref t) (hT : TR F t T) (hS : SHR F 12 (t_m T) S) (j0 : t = 45 ∨ t = 53) (x y : Int32) : Pm Z_X10_comes [.ref 0, .int x, .int y] F (fun r F' => r = some (.int (a_comes T S x y)) ∧ CDR F F') := by
  refine Pm.of fun N => ?_
  obtain ⟨Q, hQ⟩ : ∃ Q : Option Value → FW → Prop, Q = (fun r F' => r = some (.int (a_comes T S x y)) ∧ CDR F F') := ⟨_, rfl⟩
  rw [← hQ]
  have b3 := hT.mb
  have b4 := hT.nb
  have b5 := hT.gb
  have b6 := m_from_lt S
  have b7 := hS.db
  refine (show Pv (ab_T (L_X10_comes Z_X10_isSlot Z_X6_copyFrom Z_X6_ferryShore Z_X1_passDays)) N 0 [some (.ref 0), some (.int x), some (.int y), none, none, none] [] F Q from ?_)
  refine Pv.aload rfl rfl ?_
  refine Pv.iload rfl rfl ?_
  refine Pv.iload rfl rfl ?_
  refine Pv.callVI (as := [.ref 0, .int x, .int y]) (rest := []) (z := b2i ((nd (t_g T) x).isSome && (nd 2 y).isSome)) rfl rfl rfl (o_isSlot hG ht hT hS j0 x y) ?_
  refine Pv.if0 rfl (fun c1 => ?_) (fun c1 => ?_)
  · skip
    replace c1 : decide (b2i ((nd (t_g T) x).isSome && (nd 2 y).isSome) = 0) = false := by simpa using c1
    replace c1 := of_decide_eq_false c1
    replace c1 := b2n.mp c1
    obtain ⟨g, s, hg, hs, hgl, hsl, rfl, rfl⟩ := gs_t c1
    refine Pv.aload rfl rfl ?_
    refine Pv.getR (v := .ref 20) rfl rfl (GW.at (a := 0) (k := 5) (b := 20) hG (by decide)) ?_
    refine Pv.aload rfl rfl ?_
    refine Pv.getR (v := .ref 12) rfl rfl (GW.at (a := 0) (k := 4) (b := 12) hG (by decide)) ?_
    refine Pv.callV (as := [.ref 20, .ref 12]) (rest := []) rfl rfl rfl (f_shCopy (GW.o20 hG) hS b3 (by omega)) ?_
    rintro _ G2 ⟨rfl, x3, sr5⟩
    have hx4 := FX.tr (P := fun q => (7 ≤ q ∧ q ≤ 9) ∨ (20 ≤ q ∧ q ≤ 35) ∨ q = 40 ∨ q = 43) FX.rf (x3.wd (fun q (c : 20 ≤ q ∧ q ≤ 20 + 7) => (show (7 ≤ q ∧ q ≤ 9) ∨ (20 ≤ q ∧ q ≤ 35) ∨ q = 40 ∨ q = 43 by omega)))
    have hx6 := hT.fx (P := fun q => 20 ≤ q ∧ q ≤ 20 + 7) x3 (fun q h1 h2 (c : 20 ≤ q ∧ q ≤ 20 + 7) => by omega)
    have hx7 := hS.fx (P := fun q => 20 ≤ q ∧ q ≤ 20 + 7) x3 (fun q h1 h2 (c : 20 ≤ q ∧ q ≤ 20 + 7) => by omega)
    have hx8 := hG.fx (P := fun q => 20 ≤ q ∧ q ≤ 20 + 7) x3
    have hr9 : G2.2.1 0 13 = .ref t := by rw [x3.2.2.1]; exact ht
    refine (show Pv _ _ 22 [some (.ref 0), some (.int (Int32.ofNat g)), some (.int (Int32.ofNat s)), none, none, none] [] G2 Q from ?_)
    refine Pv.lit rfl ?_
    refine Pv.istore (lo' := [some (.ref 0), some (.int (Int32.ofNat g)), some (.int (Int32.ofNat s)), some (.int 0), none, none]) rfl rfl ?_
    refine Pv.lp (ι := Nat × FW × (Option Value) × (Option Value)) (lof := fun ⟨k, G, o10, o11⟩ => [some (.ref 0), some (.int (Int32.ofNat g)), some (.int (Int32.ofNat s)), some (.int (Int32.ofNat k)), o10, o11]) (Ff := fun ⟨k, G, o10, o11⟩ => G) (P := fun ⟨k, G, o10, o11⟩ => k ≤ 100 ∧ FX (fun q => (7 ≤ q ∧ q ≤ 9) ∨ (20 ≤ q ∧ q ≤ 35) ∨ q = 40 ∨ q = 43) F G ∧ SHR G 20 (t_m T) (m_days T S k) ∧ m_fst (pComes T S g s) k = none) ?_ (0, G2, none, none) (⟨Nat.zero_le _, hx4, sr5, rfl⟩)
    rintro N12 hN13 ⟨k, G, o10, o11⟩ hi14 ih15
    refine (show Pv _ _ 24 [some (.ref 0), some (.int (Int32.ofNat g)), some (.int (Int32.ofNat s)), some (.int (Int32.ofNat k)), o10, o11] [] G Q from ?_)
    obtain ⟨hk, hxG, hA, hb⟩ := hi14
    have hx16 := hT.fx (P := fun q => (7 ≤ q ∧ q ≤ 9) ∨ (20 ≤ q ∧ q ≤ 35) ∨ q = 40 ∨ q = 43) hxG (fun q h1 h2 (c : (7 ≤ q ∧ q ≤ 9) ∨ (20 ≤ q ∧ q ≤ 35) ∨ q = 40 ∨ q = 43) => by omega)
    have hx17 := hS.fx (P := fun q => (7 ≤ q ∧ q ≤ 9) ∨ (20 ≤ q ∧ q ≤ 35) ∨ q = 40 ∨ q = 43) hxG (fun q h1 h2 (c : (7 ≤ q ∧ q ≤ 9) ∨ (20 ≤ q ∧ q ≤ 35) ∨ q = 40 ∨ q = 43) => by omega)
    have hx18 := hG.fx (P := fun q => (7 ≤ q ∧ q ≤ 9) ∨ (20 ≤ q ∧ q ≤ 35) ∨ q = 40 ∨ q = 43) hxG
    have hx19 : G.2.1 0 13 = .ref t := by rw [hxG.2.2.1]; exact ht
    have bD := hA.db
    refine Pv.iloadS rfl rfl ?_
    refine Pv.lit rfl ?_
    refine Pv.icmp rfl (fun c20 => ?_) (fun c20 => ?_)
    · skip
      replace c20 := (i_le (a := 100) (b := k) (by omega) (by omega)).mp (of_decide_eq_true c20)
      refine Pv.lit rfl ?_
      exact Pv.ret rfl (by rw [hQ]; exact ⟨by unfold a_comes; rw [aGS_t hg hs, show 100 = k by omega, hb]; rfl, hxG⟩)
    · skip
      replace c20 := mt (i_le (a := 100) (b := k) (by omega) (by omega)).mpr (of_decide_eq_false c20)
      have b8 := m_from_lt (m_days T S k)
      refine Pv.aload rfl rfl ?_
      refine Pv.getR (v := .ref 20) rfl rfl (GW.at (a := 0) (k := 5) (b := 20) hx18 (by decide)) ?_
      refine Pv.getI (z := Int32.ofNat (h_d (m_days T S k))) rfl rfl (hA.d) ?_
      refine Pv.lit rfl ?_
      refine Pv.icmp rfl (fun c21 => ?_) (fun c21 => ?_)
      · skip
        replace c21 := (i_le (a := 400) (b := h_d (m_days T S k)) (by omega) (by omega)).mp (of_decide_eq_true c21)
        refine Pv.lit rfl ?_
        exact Pv.ret rfl (by rw [hQ]; exact ⟨by unfold a_comes; rw [aGS_t hg hs, m_fst_z hb (by omega) (fun i hi => by unfold pComes; rw [decide_eq_false (by rw [m_days_400 (by omega) hi]; omega)]; rfl)]; rfl, hxG⟩)
      · skip
        replace c21 := mt (i_le (a := 400) (b := h_d (m_days T S k)) (by omega) (by omega)).mpr (of_decide_eq_false c21)
        refine Pv.aload rfl rfl ?_
        refine Pv.getR (v := .ref 20) rfl rfl (GW.at (a := 0) (k := 5) (b := 20) hx18 (by decide)) ?_
        refine Pv.getI (z := Int32.ofNat (h_d (m_days T S k))) rfl rfl (hA.d) ?_
        refine Pv.istore (lo' := [some (.ref 0), some (.int (Int32.ofNat g)), some (.int (Int32.ofNat s)), some (.int (Int32.ofNat k)), some (.int (Int32.ofNat (h_d (m_days T S k)))), o11]) rfl rfl ?_
        refine Pv.aload rfl rfl ?_
        refine Pv.getR (v := .ref 20) rfl rfl (GW.at (a := 0) (k := 5) (b := 20) hx18 (by decide)) ?_
        refine Pv.callVI (as := [.ref 20]) (rest := []) (z := Int32.ofNat (m_from (m_days T S k))) rfl rfl rfl (f_ferryShore hA) ?_
        refine Pv.iload rfl rfl ?_
        refine Pv.icmp rfl (fun c22 => ?_) (fun c22 => ?_)
        · skip
          replace c22 := (i_eq (a := m_from (m_days T S k)) (b := s) (by omega) (by omega)).mp (of_decide_eq_true c22)
          refine Pv.lit rfl ?_
          refine Pv.istore (lo' := [some (.ref 0), some (.int (Int32.ofNat g)), some (.int (Int32.ofNat s)), some (.int (Int32.ofNat k)), some (.int (Int32.ofNat (h_d (m_days T S k)))), some (.int 0)]) rfl rfl ?_
          refine Pv.aload rfl rfl ?_
          refine Pv.getR (v := .ref 7) rfl rfl (GW.at (a := 0) (k := 2) (b := 7) hx18 (by decide)) ?_
          refine Pv.aload rfl rfl ?_
          refine Pv.getR (v := .ref t) rfl rfl (hx19) ?_
          refine Pv.aload rfl rfl ?_
          refine Pv.getR (v := .ref 20) rfl rfl (GW.at (a := 0) (k := 5) (b := 20) hx18 (by decide)) ?_
          refine Pv.lit rfl ?_
          refine Pv.callV (as := [.ref 7, .ref t, .ref 20, .int 1]) (rest := []) rfl rfl rfl (f_passDays (n := 1) hx16 hA hx18 (by omega) (by omega) (by omega) (by omega)) ?_
          rintro _ G23 ⟨rfl, x24, sr26, pl27⟩
          have hx25 := FX.tr (P := fun q => (7 ≤ q ∧ q ≤ 9) ∨ (20 ≤ q ∧ q ≤ 35) ∨ q = 40 ∨ q = 43) hxG (x24.wd (fun q (c : (20 ≤ q ∧ q ≤ 20 + 7) ∨ (7 ≤ q ∧ q ≤ 9)) => (show (7 ≤ q ∧ q ≤ 9) ∨ (20 ≤ q ∧ q ≤ 35) ∨ q = 40 ∨ q = 43 by omega)))
          have hx28 := hx16.fx (P := fun q => (20 ≤ q ∧ q ≤ 20 + 7) ∨ (7 ≤ q ∧ q ≤ 9)) x24 (fun q h1 h2 (c : (20 ≤ q ∧ q ≤ 20 + 7) ∨ (7 ≤ q ∧ q ≤ 9)) => by omega)
          have hx29 := hx17.fx (P := fun q => (20 ≤ q ∧ q ≤ 20 + 7) ∨ (7 ≤ q ∧ q ≤ 9)) x24 (fun q h1 h2 (c : (20 ≤ q ∧ q ≤ 20 + 7) ∨ (7 ≤ q ∧ q ≤ 9)) => by omega)
          have hx30 := hx18.fx (P := fun q => (20 ≤ q ∧ q ≤ 20 + 7) ∨ (7 ≤ q ∧ q ≤ 9)) x24
          have hr31 : G23.2.1 0 13 = .ref t := by rw [x24.2.2.1]; exact hx19
          refine (show Pv _ _ 86 [some (.ref 0), some (.int (Int32.ofNat g)), some (.int (Int32.ofNat s)), some (.int (Int32.ofNat k)), some (.int (Int32.ofNat (h_d (m_days T S k)))), some (.int 0)] [.int (Int32.ofNat (h_d (m_days T (m_days T S k) 1)) - Int32.ofNat (h_d (m_days T S k)))] G23 Q from ?_)
          have hP := pl27 0 rfl (by show h_d (m_days T S k) < 400; omega)
          have hq32 : SHR G23 20 (t_m T) (m_day T (m_days T S k)) := by have q := sr26; rw [show m_days T (m_days T S k) 1 = m_day T (m_days T S k) from if_pos (by show h_d (m_days T S k) < 400; omega)] at q; exact q
          refine Pv.pop rfl ?_
          refine Pv.iload rfl rfl ?_
          refine Pv.if0 rfl (fun c33 => ?_) (fun c33 => ?_)
          · skip
            replace c33 := (i_eq (a := 0) (b := 0) (by omega) (by omega)).mp (of_decide_eq_true c33)
            refine Pv.iinc (y := Int32.ofNat (k + 1)) (lo' := [some (.ref 0), some (.int (Int32.ofNat g)), some (.int (Int32.ofNat s)), some (.int (Int32.ofNat (k + 1))), some (.int (Int32.ofNat (h_d (m_days T S k)))), some (.int 0)]) rfl rfl (i_add k 1) rfl ?_
            refine Pv.goto rfl ?_
            exact ih15 (k + 1, G23, (some (.int (Int32.ofNat (h_d (m_days T S k))))), (some (.int 0))) (⟨by omega, hx25, by rw [m_days_s (by omega)]; exact hq32, m_fst_n hb (by unfold pComes; simp [c22])⟩)
          · skip
            replace c33 := mt (i_eq (a := 0) (b := 0) (by omega) (by omega)).mpr (of_decide_eq_false c33)
            omega
        · skip
          replace c22 := mt (i_eq (a := m_from (m_days T S k)) (b := s) (by omega) (by omega)).mpr (of_decide_eq_false c22)
          refine Pv.lit rfl ?_
          refine Pv.goto rfl ?_
          refine Pv.istore (lo' := [some (.ref 0), some (.int (Int32.ofNat g)), some (.int (Int32.ofNat s)), some (.int (Int32.ofNat k)), some (.int (Int32.ofNat (h_d (m_days T S k)))), some (.int 1)]) rfl rfl ?_
          refine Pv.aload rfl rfl ?_
          refine Pv.getR (v := .ref 7) rfl rfl (GW.at (a := 0) (k := 2) (b := 7) hx18 (by decide)) ?_
          refine Pv.aload rfl rfl ?_
          refine Pv.getR (v := .ref t) rfl rfl (hx19) ?_
          refine Pv.aload rfl rfl ?_
          refine Pv.getR (v := .ref 20) rfl rfl (GW.at (a := 0) (k := 5) (b := 20) hx18 (by decide)) ?_
          refine Pv.lit rfl ?_
          refine Pv.callV (as := [.ref 7, .ref t, .ref 20, .int 1]) (rest := []) rfl rfl rfl (f_passDays (n := 1) hx16 hA hx18 (by omega) (by omega) (by omega) (by omega)) ?_
          rintro _ G34 ⟨rfl, x35, sr37, pl38⟩
          have hx36 := FX.tr (P := fun q => (7 ≤ q ∧ q ≤ 9) ∨ (20 ≤ q ∧ q ≤ 35) ∨ q = 40 ∨ q = 43) hxG (x35.wd (fun q (c : (20 ≤ q ∧ q ≤ 20 + 7) ∨ (7 ≤ q ∧ q ≤ 9)) => (show (7 ≤ q ∧ q ≤ 9) ∨ (20 ≤ q ∧ q ≤ 35) ∨ q = 40 ∨ q = 43 by omega)))
          have hx39 := hx16.fx (P := fun q => (20 ≤ q ∧ q ≤ 20 + 7) ∨ (7 ≤ q ∧ q ≤ 9)) x35 (fun q h1 h2 (c : (20 ≤ q ∧ q ≤ 20 + 7) ∨ (7 ≤ q ∧ q ≤ 9)) => by omega)
          have hx40 := hx17.fx (P := fun q => (20 ≤ q ∧ q ≤ 20 + 7) ∨ (7 ≤ q ∧ q ≤ 9)) x35 (fun q h1 h2 (c : (20 ≤ q ∧ q ≤ 20 + 7) ∨ (7 ≤ q ∧ q ≤ 9)) => by omega)
          have hx41 := hx18.fx (P := fun q => (20 ≤ q ∧ q ≤ 20 + 7) ∨ (7 ≤ q ∧ q ≤ 9)) x35
          have hr42 : G34.2.1 0 13 = .ref t := by rw [x35.2.2.1]; exact hx19
          refine (show Pv _ _ 86 [some (.ref 0), some (.int (Int32.ofNat g)), some (.int (Int32.ofNat s)), some (.int (Int32.ofNat k)), some (.int (Int32.ofNat (h_d (m_days T S k)))), some (.int 1)] [.int (Int32.ofNat (h_d (m_days T (m_days T S k) 1)) - Int32.ofNat (h_d (m_days T S k)))] G34 Q from ?_)
          have hP := pl38 0 rfl (by show h_d (m_days T S k) < 400; omega)
          have hq43 : SHR G34 20 (t_m T) (m_day T (m_days T S k)) := by have q := sr37; rw [show m_days T (m_days T S k) 1 = m_day T (m_days T S k) from if_pos (by show h_d (m_days T S k) < 400; omega)] at q; exact q
          refine Pv.pop rfl ?_
          refine Pv.iload rfl rfl ?_
          refine Pv.if0 rfl (fun c44 => ?_) (fun c44 => ?_)
          · skip
            replace c44 := (i_eq (a := 1) (b := 0) (by omega) (by omega)).mp (of_decide_eq_true c44)
            omega
          · skip
            replace c44 := mt (i_eq (a := 1) (b := 0) (by omega) (by omega)).mpr (of_decide_eq_false c44)
            refine Pv.aload rfl rfl ?_
            refine Pv.getR (v := .ref 7) rfl rfl (GW.at (a := 0) (k := 2) (b := 7) hx41 (by decide)) ?_
            refine Pv.getR (v := .ref 8) rfl rfl (GW.at (a := 7) (k := 0) (b := 8) hx41 (by decide)) ?_
            refine Pv.iload rfl rfl ?_
            refine Pv.ald (z := m_fr T (m_days T S k) g) rfl (by rw [i_toNat (by omega)]; exact hP.2.2.1 _ (by omega)) ?_
            refine Pv.if0 rfl (fun c45 => ?_) (fun c45 => ?_)
            · skip
              replace c45 := of_decide_eq_true c45
              refine Pv.iinc (y := Int32.ofNat (k + 1)) (lo' := [some (.ref 0), some (.int (Int32.ofNat g)), some (.int (Int32.ofNat s)), some (.int (Int32.ofNat (k + 1))), some (.int (Int32.ofNat (h_d (m_days T S k)))), some (.int 1)]) rfl rfl (i_add k 1) rfl ?_
              refine Pv.goto rfl ?_
              exact ih15 (k + 1, G34, (some (.int (Int32.ofNat (h_d (m_days T S k))))), (some (.int 1))) (⟨by omega, hx36, by rw [m_days_s (by omega)]; exact hq43, m_fst_n hb (by unfold pComes; simp [c22, c45])⟩)
            · skip
              replace c45 := of_decide_eq_false c45
              refine Pv.iload rfl rfl ?_
              exact Pv.ret rfl (by rw [hQ]; exact ⟨by unfold a_comes; rw [aGS_t hg hs, m_fst_e hb (by unfold pComes; simp [c22, c45]; omega) (by omega)]; rfl, hx36⟩)
  · skip
    replace c1 : decide (b2i ((nd (t_g T) x).isSome && (nd 2 y).isSome) = 0) = true := by simpa using c1
    replace c1 := of_decide_eq_true c1
    replace c1 := b2z.mp c1
    refine Pv.lit rfl ?_
    exact Pv.ret rfl (by rw [hQ]; exact ⟨by unfold a_comes; rw [aGS_f c1], FX.rf⟩)
