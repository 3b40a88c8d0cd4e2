set_option maxRecDepth 100000 in
set_option maxHeartbeats 4000000 in
theorem o_die {F : FW} {t : Nat} {T : St} {S : Sh} (hG : GW F) (ht : F.2.1 0 13 = .ref t) (hT : TR F t T) (hS : SHR F 12 (t_m T) S) (j0 : t = 45 ∨ t = 53) {n : Nat} {H : Nat → Sh} (hH : HST F (t_m T) n H) (h88 : 88 ≤ F.2.2.2.1) (x : Int32) : Pm Z_X10_die [.ref 0, .int x] F (fun r F' => r = some (.int (a_die T S x)) ∧ HK (decide (a_die T S x = 0)) F' (t_m T) n H S ∧ SHR F' 12 (t_m T) (m_die T S x) ∧ KF (fun q => 12 ≤ q ∧ q ≤ 19) F F') := by
  refine Pm.of fun N => ?_
  obtain ⟨Q, hQ⟩ : ∃ Q : Option Value → FW → Prop, Q = (fun r F' => r = some (.int (a_die T S x)) ∧ HK (decide (a_die T S x = 0)) F' (t_m T) n H S ∧ SHR F' 12 (t_m T) (m_die T S x) ∧ KF (fun q => 12 ≤ q ∧ q ≤ 19) F F') := ⟨_, rfl⟩
  rw [← hQ]
  have b3 := hT.mb
  have b4 := hT.nb
  have b5 := hT.gb
  have b6 := m_from_lt S
  have b7 := hS.db
  refine (show Pv (ab_T (L_X10_die Z_X10_isMan Z_X6_whyNot Z_X2_keep Z_X6_perform)) N 0 [some (.ref 0), some (.int x), none] [] F Q from ?_)
  refine Pv.aload rfl rfl ?_
  refine Pv.iload rfl rfl ?_
  refine Pv.callVI (as := [.ref 0, .int x]) (rest := []) (z := b2i (nd (t_m T) x).isSome) rfl rfl rfl (o_isMan hG ht hT hS j0 x) ?_
  refine Pv.if0 rfl (fun c1 => ?_) (fun c1 => ?_)
  · skip
    replace c1 : decide (b2i (nd (t_m T) x).isSome = 0) = false := by simpa using c1
    replace c1 := of_decide_eq_false c1
    replace c1 := b2n.mp c1
    obtain ⟨k, hn, hnl, rfl⟩ := nd_t c1
    refine Pv.aload rfl rfl ?_
    refine Pv.getR (v := .ref 12) rfl rfl (GW.at (a := 0) (k := 4) (b := 12) hG (by decide)) ?_
    refine Pv.lit rfl ?_
    refine Pv.iload rfl rfl ?_
    refine Pv.lit rfl ?_
    refine Pv.callVI (as := [.ref 12, .int 3, .int (Int32.ofNat k), .int 0]) (rest := []) (z := m_why 3 S k 0) rfl rfl rfl (f_whyNot3 hS hnl b3) ?_
    refine Pv.istore (lo' := [some (.ref 0), some (.int (Int32.ofNat k)), some (.int (m_why 3 S k 0))]) rfl rfl ?_
    refine Pv.iload rfl rfl ?_
    refine Pv.if0 rfl (fun c2 => ?_) (fun c2 => ?_)
    · skip
      replace c2 : decide (m_why 3 S k 0 = 0) = false := by simpa using c2
      replace c2 := of_decide_eq_false c2
      refine Pv.iload rfl rfl ?_
      have e : a_die T S (Int32.ofNat k) = m_why 3 S k 0 := by unfold a_die; rw [hn]
      exact Pv.ret rfl (by rw [hQ]; exact ⟨by rw [e], HK.f hH (by rw [e]; exact decide_eq_false c2), by unfold m_die; rw [hn]; dsimp only; unfold m_try; rw [if_neg c2]; exact hS, KF.rf⟩)
    · skip
      replace c2 : decide (m_why 3 S k 0 = 0) = true := by simpa using c2
      replace c2 := of_decide_eq_true c2
      refine Pv.aload rfl rfl ?_
      refine Pv.getR (v := .ref 10) rfl rfl (GW.at (a := 0) (k := 3) (b := 10) hG (by decide)) ?_
      refine Pv.aload rfl rfl ?_
      refine Pv.getR (v := .ref 12) rfl rfl (GW.at (a := 0) (k := 4) (b := 12) hG (by decide)) ?_
      refine Pv.callV (as := [.ref 10, .ref 12]) (rest := []) rfl rfl rfl (f_keep hG hH hS b3 h88) ?_
      rintro _ G ⟨rfl, hH2, hK⟩
      have hG2 := hK.gw hH hG h88
      have hS2 := hK.sh hH hS (by omega) (by omega) h88
      have hT2 := hK.st hH hT (by omega) (by omega) h88
      have ht2 : G.2.1 0 13 = .ref t := ((hK.2.2.1 0 (by omega) (by omega) (by omega) (hH.ns (by omega))).2.1 13).trans ht
      refine (show Pv _ _ 36 [some (.ref 0), some (.int (Int32.ofNat k)), some (.int (m_why 3 S k 0))] [] G Q from ?_)
      refine Pv.aload rfl rfl ?_
      refine Pv.getR (v := .ref 12) rfl rfl (GW.at (a := 0) (k := 4) (b := 12) hG2 (by decide)) ?_
      refine Pv.lit rfl ?_
      refine Pv.iload rfl rfl ?_
      refine Pv.lit rfl ?_
      refine Pv.callV (as := [.ref 12, .int 3, .int (Int32.ofNat k), .int 0]) (rest := []) rfl rfl rfl (f_perform3 hS2 hnl b3) ?_
      rintro _ G3 ⟨rfl, x4, sr6⟩
      have hx5 := FX.tr (P := fun q => 12 ≤ q ∧ q ≤ 19) FX.rf (x4.wd (fun q (c : 12 ≤ q ∧ q ≤ 12 + 7) => (show 12 ≤ q ∧ q ≤ 19 by omega)))
      have hx7 := hT2.fx (P := fun q => 12 ≤ q ∧ q ≤ 12 + 7) x4 (fun q h1 h2 (c : 12 ≤ q ∧ q ≤ 12 + 7) => by omega)
      have hx8 := hG2.fx (P := fun q => 12 ≤ q ∧ q ≤ 12 + 7) x4
      have hr9 : G3.2.1 0 13 = .ref t := by rw [x4.2.2.1]; exact ht2
      refine (show Pv _ _ 46 [some (.ref 0), some (.int (Int32.ofNat k)), some (.int (m_why 3 S k 0))] [] G3 Q from ?_)
      refine Pv.iload rfl rfl ?_
      have e : a_die T S (Int32.ofNat k) = m_why 3 S k 0 := by unfold a_die; rw [hn]
      exact Pv.ret rfl (by rw [hQ]; exact ⟨by rw [e], HK.t (hH2.fx (P := fun q => 12 ≤ q ∧ q ≤ 19) hx5 (fun q (c : 12 ≤ q ∧ q ≤ 19) => by omega)) (by rw [e]; exact decide_eq_true c2), by unfold m_die; rw [hn]; dsimp only; unfold m_try; rw [if_pos c2]; exact sr6, hK.wide.fx (R := fun q => 12 ≤ q ∧ q ≤ 19) hx5 (fun q _ c => c)⟩)
  · skip
    replace c1 : decide (b2i (nd (t_m T) x).isSome = 0) = true := by simpa using c1
    replace c1 := of_decide_eq_true c1
    replace c1 := b2z.mp c1
    refine Pv.lit rfl ?_
    have e : a_die T S x = -1 := by unfold a_die; rw [nd_f c1]
    exact Pv.ret rfl (by rw [hQ]; exact ⟨by rw [e], HK.f hH (by rw [e]; rfl), by unfold m_die; rw [nd_f c1]; exact hS, KF.rf⟩)
set_option maxRecDepth 100000 in
set_option maxHeartbeats 4000000 in
theorem o_days {F : FW} {t : Nat} {T : St} {S : Sh} (hG : GW F) (ht : F.2.1 0 13 = .ref t) (hT : TR F t T) (hS : SHR F 12 (t_m T) S) (j0 : t = 45 ∨ t = 53) {n : Nat} {H : Nat → Sh} (hH : HST F (t_m T) n H) (h88 : 88 ≤ F.2.2.2.1) (x : Int32) : Pm Z_X10_days [.ref 0, .int x] F (fun r F' => r = some (.int (a_days T S x)) ∧ HK ((ndr 1 60 x).isSome && decide (h_d S < 400)) F' (t_m T) n H S ∧ SHR F' 12 (t_m T) (m_dys T S x) ∧ KF (fun q => (12 ≤ q ∧ q ≤ 19) ∨ (7 ≤ q ∧ q ≤ 9)) F F') := by
  refine Pm.of fun N => ?_
  obtain ⟨Q, hQ⟩ : ∃ Q : Option Value → FW → Prop, Q = (fun r F' => r = some (.int (a_days T S x)) ∧ HK ((ndr 1 60 x).isSome && decide (h_d S < 400)) F' (t_m T) n H S ∧ SHR F' 12 (t_m T) (m_dys T S x) ∧ KF (fun q => (12 ≤ q ∧ q ≤ 19) ∨ (7 ≤ q ∧ q ≤ 9)) F F') := ⟨_, rfl⟩
  rw [← hQ]
  have b3 := hT.mb
  have b4 := hT.nb
  have b5 := hT.gb
  have b6 := m_from_lt S
  have b7 := hS.db
  refine (show Pv (ab_T (L_X10_days Z_X10_isWithin Z_X2_keep Z_X1_passDays)) N 0 [some (.ref 0), some (.int x)] [] F Q from ?_)
  refine Pv.iload rfl rfl ?_
  refine Pv.lit rfl ?_
  refine Pv.callI (as := [.int x, .int 60]) (rest := []) (z := b2i (decide (1 ≤ x) && decide (x ≤ 60))) rfl rfl rfl ((o_isWithin x 60)) ?_
  refine Pv.if0 rfl (fun c1 => ?_) (fun c1 => ?_)
  · skip
    replace c1 : decide (b2i (decide (1 ≤ x) && decide (x ≤ 60)) = 0) = false := by simpa using c1
    replace c1 := of_decide_eq_false c1
    replace c1 := b2n.mp c1
    obtain ⟨k, hn, hna, hnb, rfl⟩ := ndr_t ((ndr_in (a := 1) (b := 60) (by omega) (by omega)).symm.trans c1)
    refine Pv.aload rfl rfl ?_
    refine Pv.getR (v := .ref 12) rfl rfl (GW.at (a := 0) (k := 4) (b := 12) hG (by decide)) ?_
    refine Pv.getI (z := Int32.ofNat (h_d S)) rfl rfl (hS.d) ?_
    refine Pv.lit rfl ?_
    refine Pv.icmp rfl (fun c2 => ?_) (fun c2 => ?_)
    · skip
      replace c2 := (i_le (a := 400) (b := h_d S) (by omega) (by omega)).mp (of_decide_eq_true c2)
      refine Pv.aload rfl rfl ?_
      refine Pv.getR (v := .ref 7) rfl rfl (GW.at (a := 0) (k := 2) (b := 7) hG (by decide)) ?_
      refine Pv.aload rfl rfl ?_
      refine Pv.getR (v := .ref t) rfl rfl (ht) ?_
      refine Pv.aload rfl rfl ?_
      refine Pv.getR (v := .ref 12) rfl rfl (GW.at (a := 0) (k := 4) (b := 12) hG (by decide)) ?_
      refine Pv.iload rfl rfl ?_
      refine Pv.callV (as := [.ref 7, .ref t, .ref 12, .int (Int32.ofNat k)]) (rest := []) rfl rfl rfl (f_passDays (n := k) hT hS hG (by omega) (by omega) (by omega) (by omega)) ?_
      rintro _ G3 ⟨rfl, x4, sr6, pl7⟩
      have hx5 := FX.tr (P := fun q => (12 ≤ q ∧ q ≤ 19) ∨ (7 ≤ q ∧ q ≤ 9)) FX.rf (x4.wd (fun q (c : (12 ≤ q ∧ q ≤ 12 + 7) ∨ (7 ≤ q ∧ q ≤ 9)) => (show (12 ≤ q ∧ q ≤ 19) ∨ (7 ≤ q ∧ q ≤ 9) by omega)))
      have hx8 := hT.fx (P := fun q => (12 ≤ q ∧ q ≤ 12 + 7) ∨ (7 ≤ q ∧ q ≤ 9)) x4 (fun q h1 h2 (c : (12 ≤ q ∧ q ≤ 12 + 7) ∨ (7 ≤ q ∧ q ≤ 9)) => by omega)
      have hx9 := hG.fx (P := fun q => (12 ≤ q ∧ q ≤ 12 + 7) ∨ (7 ≤ q ∧ q ≤ 9)) x4
      have hr10 : G3.2.1 0 13 = .ref t := by rw [x4.2.2.1]; exact ht
      refine (show Pv _ _ 51 [some (.ref 0), some (.int (Int32.ofNat k))] [.int (Int32.ofNat (h_d (m_days T S k)) - Int32.ofNat (h_d S))] G3 Q from ?_)
      exact Pv.ret rfl (by rw [hQ]; exact ⟨by unfold a_days; rw [hn], HK.f (hH.fx (P := fun q => (12 ≤ q ∧ q ≤ 19) ∨ (7 ≤ q ∧ q ≤ 9)) hx5 (fun q (c : (12 ≤ q ∧ q ≤ 19) ∨ (7 ≤ q ∧ q ≤ 9)) => by omega)) (by rw [hn]; exact decide_eq_false (by omega)), by unfold m_dys; rw [hn]; exact sr6, KF.rf.fx (R := fun q => (12 ≤ q ∧ q ≤ 19) ∨ (7 ≤ q ∧ q ≤ 9)) hx5 (fun q _ c => c)⟩)
    · skip
      replace c2 := mt (i_le (a := 400) (b := h_d S) (by omega) (by omega)).mpr (of_decide_eq_false c2)
      refine Pv.aload rfl rfl ?_
      refine Pv.getR (v := .ref 10) rfl rfl (GW.at (a := 0) (k := 3) (b := 10) hG (by decide)) ?_
      refine Pv.aload rfl rfl ?_
      refine Pv.getR (v := .ref 12) rfl rfl (GW.at (a := 0) (k := 4) (b := 12) hG (by decide)) ?_
      refine Pv.callV (as := [.ref 10, .ref 12]) (rest := []) rfl rfl rfl (f_keep hG hH hS b3 h88) ?_
      rintro _ G ⟨rfl, hH2, hK⟩
      have hG2 := hK.gw hH hG h88
      have hS2 := hK.sh hH hS (by omega) (by omega) h88
      have hT2 := hK.st hH hT (by omega) (by omega) h88
      have ht2 : G.2.1 0 13 = .ref t := ((hK.2.2.1 0 (by omega) (by omega) (by omega) (hH.ns (by omega))).2.1 13).trans ht
      refine (show Pv _ _ 35 [some (.ref 0), some (.int (Int32.ofNat k))] [] G Q from ?_)
      refine Pv.aload rfl rfl ?_
      refine Pv.getR (v := .ref 7) rfl rfl (GW.at (a := 0) (k := 2) (b := 7) hG2 (by decide)) ?_
      refine Pv.aload rfl rfl ?_
      refine Pv.getR (v := .ref t) rfl rfl (ht2) ?_
      refine Pv.aload rfl rfl ?_
      refine Pv.getR (v := .ref 12) rfl rfl (GW.at (a := 0) (k := 4) (b := 12) hG2 (by decide)) ?_
      refine Pv.iload rfl rfl ?_
      refine Pv.callV (as := [.ref 7, .ref t, .ref 12, .int (Int32.ofNat k)]) (rest := []) rfl rfl rfl (f_passDays (n := k) hT2 hS2 hG2 (by omega) (by omega) (by omega) (by omega)) ?_
      rintro _ G11 ⟨rfl, x12, sr14, pl15⟩
      have hx13 := FX.tr (P := fun q => (12 ≤ q ∧ q ≤ 19) ∨ (7 ≤ q ∧ q ≤ 9)) FX.rf (x12.wd (fun q (c : (12 ≤ q ∧ q ≤ 12 + 7) ∨ (7 ≤ q ∧ q ≤ 9)) => (show (12 ≤ q ∧ q ≤ 19) ∨ (7 ≤ q ∧ q ≤ 9) by omega)))
      have hx16 := hT2.fx (P := fun q => (12 ≤ q ∧ q ≤ 12 + 7) ∨ (7 ≤ q ∧ q ≤ 9)) x12 (fun q h1 h2 (c : (12 ≤ q ∧ q ≤ 12 + 7) ∨ (7 ≤ q ∧ q ≤ 9)) => by omega)
      have hx17 := hG2.fx (P := fun q => (12 ≤ q ∧ q ≤ 12 + 7) ∨ (7 ≤ q ∧ q ≤ 9)) x12
      have hr18 : G11.2.1 0 13 = .ref t := by rw [x12.2.2.1]; exact ht2
      refine (show Pv _ _ 51 [some (.ref 0), some (.int (Int32.ofNat k))] [.int (Int32.ofNat (h_d (m_days T S k)) - Int32.ofNat (h_d S))] G11 Q from ?_)
      exact Pv.ret rfl (by rw [hQ]; exact ⟨by unfold a_days; rw [hn], HK.t (hH2.fx (P := fun q => (12 ≤ q ∧ q ≤ 19) ∨ (7 ≤ q ∧ q ≤ 9)) hx13 (fun q (c : (12 ≤ q ∧ q ≤ 19) ∨ (7 ≤ q ∧ q ≤ 9)) => by omega)) (by rw [hn]; exact decide_eq_true (by omega)), by unfold m_dys; rw [hn]; exact sr14, hK.wide.fx (R := fun q => (12 ≤ q ∧ q ≤ 19) ∨ (7 ≤ q ∧ q ≤ 9)) hx13 (fun q _ c => c)⟩)
  · skip
    replace c1 : decide (b2i (decide (1 ≤ x) && decide (x ≤ 60)) = 0) = true := by simpa using c1
    replace c1 := of_decide_eq_true c1
    replace c1 := b2z.mp c1
    refine Pv.lit rfl ?_
    exact Pv.ret rfl (by rw [hQ]; exact ⟨by unfold a_days; rw [ndr_f ((ndr_in (a := 1) (b := 60) (by omega) (by omega)).symm.trans c1)], HK.f hH (by rw [ndr_f ((ndr_in (a := 1) (b := 60) (by omega) (by omega)).symm.trans c1)]; rfl), by unfold m_dys; rw [ndr_f ((ndr_in (a := 1) (b := 60) (by omega) (by omega)).symm.trans c1)]; exact hS, KF.rf⟩)
set_option maxRecDepth 100000 in
set_option maxHeartbeats 4000000 in
theorem o_drawn {F : FW} {t : Nat} {T : St} {S : Sh} (hG : GW F) (ht : F.2.1 0 13 = .ref t) (hT : TR F t T) (hS : SHR F 12 (t_m T) S) (j0 : t = 45 ∨ t = 53) {n : Nat} {H : Nat → Sh} (hH : HST F (t_m T) n H) (h88 : 88 ≤ F.2.2.2.1) (x z : Int32) : Pm Z_X10_drawn [.ref 0, .int x, .int z] F (fun r F' => r = some (.int (a_drawn T S x z)) ∧ HK ((ndr 1 60 x).isSome && decide (0 < t_g T) && decide (h_d S < 400)) F' (t_m T) n H S ∧ SHR F' 12 (t_m T) (m_dwn T S x z) ∧ KF (fun q => (12 ≤ q ∧ q ≤ 19) ∨ (7 ≤ q ∧ q ≤ 9) ∨ q = 40) F F') := by
  refine Pm.of fun N => ?_
  obtain ⟨Q, hQ⟩ : ∃ Q : Option Value → FW → Prop, Q = (fun r F' => r = some (.int (a_drawn T S x z)) ∧ HK ((ndr 1 60 x).isSome && decide (0 < t_g T) && decide (h_d S < 400)) F' (t_m T) n H S ∧ SHR F' 12 (t_m T) (m_dwn T S x z) ∧ KF (fun q => (12 ≤ q ∧ q ≤ 19) ∨ (7 ≤ q ∧ q ≤ 9) ∨ q = 40) F F') := ⟨_, rfl⟩
  rw [← hQ]
  have b3 := hT.mb
  have b4 := hT.nb
  have b5 := hT.gb
  have b6 := m_from_lt S
  have b7 := hS.db
  refine (show Pv (ab_T (L_X10_drawn Z_X10_isWithin Z_X2_keep Z_X10_drawDays)) N 0 [some (.ref 0), some (.int x), some (.int z)] [] F Q from ?_)
  refine Pv.iload rfl rfl ?_
  refine Pv.lit rfl ?_
  refine Pv.callI (as := [.int x, .int 60]) (rest := []) (z := b2i (decide (1 ≤ x) && decide (x ≤ 60))) rfl rfl rfl ((o_isWithin x 60)) ?_
  refine Pv.if0 rfl (fun c1 => ?_) (fun c1 => ?_)
  · skip
    replace c1 := of_decide_eq_true c1
    replace c1 := b2z.mp c1
    refine Pv.lit rfl ?_
    exact Pv.ret rfl (by rw [hQ]; exact ⟨by unfold a_drawn; rw [ndr_f ((ndr_in (a := 1) (b := 60) (by omega) (by omega)).symm.trans c1)], HK.f hH (by rw [ndr_f ((ndr_in (a := 1) (b := 60) (by omega) (by omega)).symm.trans c1)]; rfl), by unfold m_dwn; rw [ndr_f ((ndr_in (a := 1) (b := 60) (by omega) (by omega)).symm.trans c1)]; exact hS, KF.rf⟩)
  · skip
    replace c1 := of_decide_eq_false c1
    replace c1 := b2n.mp c1
    obtain ⟨k, hn, hna, hnb, rfl⟩ := ndr_t ((ndr_in (a := 1) (b := 60) (by omega) (by omega)).symm.trans c1)
    refine Pv.aload rfl rfl ?_
    refine Pv.getR (v := .ref t) rfl rfl (ht) ?_
    refine Pv.getI (z := Int32.ofNat (t_g T)) rfl rfl (hT.g) ?_
    refine Pv.if0 rfl (fun c2 => ?_) (fun c2 => ?_)
    · skip
      replace c2 : decide (Int32.ofNat (t_g T) = 0) = false := by simpa using c2
      replace c2 := mt (i_eq (a := t_g T) (b := 0) (by omega) (by omega)).mpr (of_decide_eq_false c2)
      have hg : 0 < t_g T := by omega
      refine Pv.aload rfl rfl ?_
      refine Pv.getR (v := .ref 12) rfl rfl (GW.at (a := 0) (k := 4) (b := 12) hG (by decide)) ?_
      refine Pv.getI (z := Int32.ofNat (h_d S)) rfl rfl (hS.d) ?_
      refine Pv.lit rfl ?_
      refine Pv.icmp rfl (fun c3 => ?_) (fun c3 => ?_)
      · skip
        replace c3 := (i_le (a := 400) (b := h_d S) (by omega) (by omega)).mp (of_decide_eq_true c3)
        refine Pv.aload rfl rfl ?_
        refine Pv.aload rfl rfl ?_
        refine Pv.getR (v := .ref 12) rfl rfl (GW.at (a := 0) (k := 4) (b := 12) hG (by decide)) ?_
        refine Pv.iload rfl rfl ?_
        refine Pv.iload rfl rfl ?_
        refine Pv.callV (as := [.ref 0, .ref 12, .int (Int32.ofNat k), .int z]) (rest := []) rfl rfl rfl (f_drawDays (n := k) (x := z) hG ht hT hS hg (by omega) (by omega) (by omega) (by omega) (by omega) (by omega)) ?_
        rintro _ G4 ⟨rfl, x5, sr7, hs8⟩
        have hx6 := FX.tr (P := fun q => (12 ≤ q ∧ q ≤ 19) ∨ (7 ≤ q ∧ q ≤ 9) ∨ q = 40) FX.rf (x5.wd (fun q (c : (12 ≤ q ∧ q ≤ 12 + 7) ∨ (7 ≤ q ∧ q ≤ 9) ∨ q = 40) => (show (12 ≤ q ∧ q ≤ 19) ∨ (7 ≤ q ∧ q ≤ 9) ∨ q = 40 by omega)))
        have hx9 := hT.fx (P := fun q => (12 ≤ q ∧ q ≤ 12 + 7) ∨ (7 ≤ q ∧ q ≤ 9) ∨ q = 40) x5 (fun q h1 h2 (c : (12 ≤ q ∧ q ≤ 12 + 7) ∨ (7 ≤ q ∧ q ≤ 9) ∨ q = 40) => by omega)
        have hx10 := hG.fx (P := fun q => (12 ≤ q ∧ q ≤ 12 + 7) ∨ (7 ≤ q ∧ q ≤ 9) ∨ q = 40) x5
        have hr11 : G4.2.1 0 13 = .ref t := by rw [x5.2.2.1]; exact ht
        refine (show Pv _ _ 55 [some (.ref 0), some (.int (Int32.ofNat k)), some (.int z)] [.int (Int32.ofNat (h_d (m_drawn T (S, z) k).1) - Int32.ofNat (h_d S))] G4 Q from ?_)
        exact Pv.ret rfl (by rw [hQ]; exact ⟨by unfold a_drawn; rw [hn]; dsimp only; rw [if_neg (by omega)], HK.f (hH.fx (P := fun q => (12 ≤ q ∧ q ≤ 19) ∨ (7 ≤ q ∧ q ≤ 9) ∨ q = 40) hx6 (fun q (c : (12 ≤ q ∧ q ≤ 19) ∨ (7 ≤ q ∧ q ≤ 9) ∨ q = 40) => by omega)) (by rw [hn, decide_eq_true (show 0 < t_g T by omega)]; exact decide_eq_false (by omega)), by unfold m_dwn; rw [hn]; dsimp only; rw [if_neg (by omega)]; exact sr7, KF.rf.fx (R := fun q => (12 ≤ q ∧ q ≤ 19) ∨ (7 ≤ q ∧ q ≤ 9) ∨ q = 40) hx6 (fun q _ c => c)⟩)
      · skip
        replace c3 := mt (i_le (a := 400) (b := h_d S) (by omega) (by omega)).mpr (of_decide_eq_false c3)
        refine Pv.aload rfl rfl ?_
        refine Pv.getR (v := .ref 10) rfl rfl (GW.at (a := 0) (k := 3) (b := 10) hG (by decide)) ?_
        refine Pv.aload rfl rfl ?_
        refine Pv.getR (v := .ref 12) rfl rfl (GW.at (a := 0) (k := 4) (b := 12) hG (by decide)) ?_
        refine Pv.callV (as := [.ref 10, .ref 12]) (rest := []) rfl rfl rfl (f_keep hG hH hS b3 h88) ?_
        rintro _ G ⟨rfl, hH2, hK⟩
        have hG2 := hK.gw hH hG h88
        have hS2 := hK.sh hH hS (by omega) (by omega) h88
        have hT2 := hK.st hH hT (by omega) (by omega) h88
        have ht2 : G.2.1 0 13 = .ref t := ((hK.2.2.1 0 (by omega) (by omega) (by omega) (hH.ns (by omega))).2.1 13).trans ht
        refine (show Pv _ _ 45 [some (.ref 0), some (.int (Int32.ofNat k)), some (.int z)] [] G Q from ?_)
        refine Pv.aload rfl rfl ?_
        refine Pv.aload rfl rfl ?_
        refine Pv.getR (v := .ref 12) rfl rfl (GW.at (a := 0) (k := 4) (b := 12) hG2 (by decide)) ?_
        refine Pv.iload rfl rfl ?_
        refine Pv.iload rfl rfl ?_
        refine Pv.callV (as := [.ref 0, .ref 12, .int (Int32.ofNat k), .int z]) (rest := []) rfl rfl rfl (f_drawDays (n := k) (x := z) hG2 ht2 hT2 hS2 hg (by omega) (by omega) (by omega) (by omega) (by omega) (by omega)) ?_
        rintro _ G12 ⟨rfl, x13, sr15, hs16⟩
        have hx14 := FX.tr (P := fun q => (12 ≤ q ∧ q ≤ 19) ∨ (7 ≤ q ∧ q ≤ 9) ∨ q = 40) FX.rf (x13.wd (fun q (c : (12 ≤ q ∧ q ≤ 12 + 7) ∨ (7 ≤ q ∧ q ≤ 9) ∨ q = 40) => (show (12 ≤ q ∧ q ≤ 19) ∨ (7 ≤ q ∧ q ≤ 9) ∨ q = 40 by omega)))
        have hx17 := hT2.fx (P := fun q => (12 ≤ q ∧ q ≤ 12 + 7) ∨ (7 ≤ q ∧ q ≤ 9) ∨ q = 40) x13 (fun q h1 h2 (c : (12 ≤ q ∧ q ≤ 12 + 7) ∨ (7 ≤ q ∧ q ≤ 9) ∨ q = 40) => by omega)
        have hx18 := hG2.fx (P := fun q => (12 ≤ q ∧ q ≤ 12 + 7) ∨ (7 ≤ q ∧ q ≤ 9) ∨ q = 40) x13
        have hr19 : G12.2.1 0 13 = .ref t := by rw [x13.2.2.1]; exact ht2
        refine (show Pv _ _ 55 [some (.ref 0), some (.int (Int32.ofNat k)), some (.int z)] [.int (Int32.ofNat (h_d (m_drawn T (S, z) k).1) - Int32.ofNat (h_d S))] G12 Q from ?_)
        exact Pv.ret rfl (by rw [hQ]; exact ⟨by unfold a_drawn; rw [hn]; dsimp only; rw [if_neg (by omega)], HK.t (hH2.fx (P := fun q => (12 ≤ q ∧ q ≤ 19) ∨ (7 ≤ q ∧ q ≤ 9) ∨ q = 40) hx14 (fun q (c : (12 ≤ q ∧ q ≤ 19) ∨ (7 ≤ q ∧ q ≤ 9) ∨ q = 40) => by omega)) (by rw [hn, decide_eq_true (show 0 < t_g T by omega)]; exact decide_eq_true (by omega)), by unfold m_dwn; rw [hn]; dsimp only; rw [if_neg (by omega)]; exact sr15, hK.wide.fx (R := fun q => (12 ≤ q ∧ q ≤ 19) ∨ (7 ≤ q ∧ q ≤ 9) ∨ q = 40) hx14 (fun q _ c => c)⟩)
    · skip
      replace c2 : decide (Int32.ofNat (t_g T) = 0) = true := by simpa using c2
      replace c2 := (i_eq (a := t_g T) (b := 0) (by omega) (by omega)).mp (of_decide_eq_true c2)
      refine Pv.lit rfl ?_
      exact Pv.ret rfl (by rw [hQ]; exact ⟨by unfold a_drawn; rw [hn]; dsimp only; rw [if_pos (by omega)], HK.f hH (by rw [hn, decide_eq_false (show ¬ 0 < t_g T by omega)]; rfl), by unfold m_dwn; rw [hn]; dsimp only; rw [if_pos (by omega)]; exact hS, KF.rf⟩)
set_option maxRecDepth 100000 in
set_option maxHeartbeats 4000000 in
theorem f_takeBack0 {F : FW} {n mm c : Nat} {s : Nat → Nat} {S : Sh} {H : Nat → Sh} (hG : GW F) (hW : HW F c s) (hc : n ≤ c) (hn : F.1 10 1 = Int32.ofNat n) (hj : ∀ j, j < n → SHR F (s j) mm (H j)) (hS : SHR F 12 mm S) (hmm : mm ≤ 8) : Pm Z_X2_takeBack [.ref 10, .ref 12] F (fun r F' => r = some (.int (if n = 0 then -1 else Int32.ofNat (n - 1))) ∧ HST F' mm (n - 1) H ∧ SHR F' 12 mm (if n = 0 then S else H (n - 1)) ∧ FX (fun q => (12 ≤ q ∧ q ≤ 19) ∨ q = 10) F F') := by
  refine Pm.of fun N => ?_
  obtain ⟨Q, hQ⟩ : ∃ Q : Option Value → FW → Prop, Q = (fun r F' => r = some (.int (if n = 0 then -1 else Int32.ofNat (n - 1))) ∧ HST F' mm (n - 1) H ∧ SHR F' 12 mm (if n = 0 then S else H (n - 1)) ∧ FX (fun q => (12 ≤ q ∧ q ≤ 19) ∨ q = 10) F F') := ⟨_, rfl⟩
  rw [← hQ]
  have b9 := hW.1
  refine (show Pv (ab_T (L_X2_takeBack Z_X6_copyFrom)) N 0 [some (.ref 10), some (.ref 12), none] [] F Q from ?_)
  refine Pv.aload rfl rfl ?_
  refine Pv.getI (z := Int32.ofNat n) rfl rfl (hn) ?_
  refine Pv.if0 rfl (fun c1 => ?_) (fun c1 => ?_)
  · skip
    replace c1 := (i_le (a := n) (b := 0) (by omega) (by omega)).mp (of_decide_eq_true c1)
    refine Pv.lit rfl ?_
    exact Pv.ret rfl (by rw [hQ]; exact ⟨by rw [if_pos (by omega)], by rw [show n - 1 = n by omega]; exact ⟨c, s, hW, hc, hn, hj⟩, by rw [if_pos (by omega)]; exact hS, FX.rf⟩)
  · skip
    replace c1 := mt (i_le (a := n) (b := 0) (by omega) (by omega)).mpr (of_decide_eq_false c1)
    refine Pv.aload rfl rfl ?_
    refine Pv.getI (z := Int32.ofNat n) rfl rfl (hn) ?_
    refine Pv.lit rfl ?_
    refine Pv.icmp rfl (fun c2 => ?_) (fun c2 => ?_)
    · skip
      replace c2 := (i_le (a := n) (b := 8) (by omega) (by omega)).mp (of_decide_eq_true c2)
      refine Pv.aload rfl rfl ?_
      refine Pv.getR (v := .ref 11) rfl rfl (GW.at (a := 10) (k := 0) (b := 11) hG (by decide)) ?_
      refine Pv.aload rfl rfl ?_
      refine Pv.getI (z := Int32.ofNat n) rfl rfl (hn) ?_
      refine Pv.lit rfl ?_
      refine Pv.bin (z := Int32.ofNat (n - 1)) rfl (i_subN (a := n) (b := 1) (by omega)) ?_
      refine Pv.aald (v := .ref (s (n - 1))) rfl (by rw [i_toNat (by omega)]; exact (hW.2.1 (n - 1) (by omega)).1) ?_
      refine Pv.astore (lo' := [some (.ref 10), some (.ref 12), some (.ref (s (n - 1)))]) rfl rfl ?_
      refine Pv.aload rfl rfl ?_
      refine Pv.nonnullR rfl ?_
      refine Pv.aload rfl rfl ?_
      refine Pv.aload rfl rfl ?_
      refine Pv.callV (as := [.ref 12, .ref (s (n - 1))]) (rest := []) rfl rfl rfl (f_shCopy hS.o (hj (n - 1) (by omega)) hmm (by have q := (hW.2.1 (n - 1) (by omega)).2.2.1; omega)) ?_
      rintro _ G3 ⟨rfl, x4, sr6⟩
      have hx5 := FX.tr (P := fun q => (12 ≤ q ∧ q ≤ 19) ∨ q = 10) FX.rf (x4.wd (fun q (c : 12 ≤ q ∧ q ≤ 12 + 7) => (show (12 ≤ q ∧ q ≤ 19) ∨ q = 10 by omega)))
      have hx7 := hG.fx (P := fun q => 12 ≤ q ∧ q ≤ 12 + 7) x4
      refine (show Pv _ _ 41 [some (.ref 10), some (.ref 12), some (.ref (s (n - 1)))] [] G3 Q from ?_)
      refine Pv.aload rfl rfl ?_
      refine Pv.dup rfl ?_
      refine Pv.getI (z := Int32.ofNat n) rfl rfl ((x4.1 10 1 (by omega)).trans hn) ?_
      refine Pv.lit rfl ?_
      refine Pv.bin (z := Int32.ofNat (n - 1)) rfl (i_subN (a := n) (b := 1) (by omega)) ?_
      refine Pv.putI rfl rfl ?_
      refine Pv.aload rfl rfl ?_
      refine Pv.getI (z := Int32.ofNat (n - 1)) rfl rfl (fp_eq) ?_
      exact Pv.ret rfl (by rw [hQ]; exact ⟨by rw [if_neg (by omega)], HST.took (n := n) ⟨c, s, hW, hc, hn, hj⟩ (P := fun q => (12 ≤ q ∧ q ≤ 19) ∨ q = 10) ((hx5).fp (show (12 ≤ 10 ∧ 10 ≤ 19) ∨ 10 = 10 by omega)) (fun q (c : (12 ≤ q ∧ q ≤ 19) ∨ q = 10) => by omega) (fp_eq), by rw [if_neg (by omega)]; exact (sr6.fx (P := fun q => q = 10) (((FX.rf (P := fun q => q = 10))).fp rfl) (fun q h1 h2 (c : q = 10) => by omega)), (hx5).fp (show (12 ≤ 10 ∧ 10 ≤ 19) ∨ 10 = 10 by omega)⟩)
    · skip
      replace c2 := mt (i_le (a := n) (b := 8) (by omega) (by omega)).mpr (of_decide_eq_false c2)
      refine Pv.lit rfl ?_
      exact Pv.ret rfl (by rw [hQ]; exact ⟨by rw [if_pos (by omega)], by rw [show n - 1 = n by omega]; exact ⟨c, s, hW, hc, hn, hj⟩, by rw [if_pos (by omega)]; exact hS, FX.rf⟩)
set_option maxRecDepth 100000 in
set_option maxHeartbeats 4000000 in
theorem o_fault {F : FW} {t : Nat} {T : St} {S : Sh} (hG : GW F) (ht : F.2.1 0 13 = .ref t) (hT : TR F t T) (hS : SHR F 12 (t_m T) S) (j0 : t = 45 ∨ t = 53) : Pm Z_X10_fault [.ref 0] F (fun r F' => r = some (.int (F.1 0 18)) ∧ F' = F) := by
  refine Pm.of fun N => ?_
  obtain ⟨Q, hQ⟩ : ∃ Q : Option Value → FW → Prop, Q = (fun r F' => r = some (.int (F.1 0 18)) ∧ F' = F) := ⟨_, rfl⟩
  rw [← hQ]
  have b3 := hT.mb
  have b4 := hT.nb
  have b5 := hT.gb
  have b6 := m_from_lt S
  have b7 := hS.db
  refine (show Pv (ab_T L_X10_fault) N 0 [some (.ref 0)] [] F Q from ?_)
  refine Pv.aload rfl rfl ?_
  refine Pv.getI (z := F.1 0 18) rfl rfl (rfl) ?_
  exact Pv.ret rfl (by rw [hQ]; exact ⟨rfl, rfl⟩)
set_option maxRecDepth 100000 in
set_option maxHeartbeats 4000000 in
theorem o_hoard {F : FW} {t : Nat} {T : St} {S : Sh} (hG : GW F) (ht : F.2.1 0 13 = .ref t) (hT : TR F t T) (hS : SHR F 12 (t_m T) S) (j0 : t = 45 ∨ t = 53) {n : Nat} {H : Nat → Sh} (hH : HST F (t_m T) n H) (h88 : 88 ≤ F.2.2.2.1) (x y z : Int32) : Pm Z_X10_hoard [.ref 0, .int x, .int y, .int z] F (fun r F' => r = some (.int (a_act 0 T S x y z)) ∧ HK (decide (a_act 0 T S x y z = 0)) F' (t_m T) n H S ∧ SHR F' 12 (t_m T) (m_act 0 T S x y z) ∧ KF (fun q => 12 ≤ q ∧ q ≤ 19) F F') := by
  refine Pm.of fun N => ?_
  obtain ⟨Q, hQ⟩ : ∃ Q : Option Value → FW → Prop, Q = (fun r F' => r = some (.int (a_act 0 T S x y z)) ∧ HK (decide (a_act 0 T S x y z = 0)) F' (t_m T) n H S ∧ SHR F' 12 (t_m T) (m_act 0 T S x y z) ∧ KF (fun q => 12 ≤ q ∧ q ≤ 19) F F') := ⟨_, rfl⟩
  rw [← hQ]
  refine (show Pv (ab_T (L_X10_hoard Z_X10_act)) N 0 [some (.ref 0), some (.int x), some (.int y), some (.int z)] [] F Q from ?_)
  refine Pv.aload rfl rfl ?_
  refine Pv.lit rfl ?_
  refine Pv.iload rfl rfl ?_
  refine Pv.iload rfl rfl ?_
  refine Pv.iload rfl rfl ?_
  refine Pv.callV (as := [.ref 0, .int 0, .int x, .int y, .int z]) (rest := []) rfl rfl rfl (o_act (d := 0) hG ht hT hS j0 hH h88 (by decide) x y z) ?_
  rintro _ G ⟨rfl, h1, h2, h3⟩
  refine (show Pv _ _ 8 [some (.ref 0), some (.int x), some (.int y), some (.int z)] [.int (a_act 0 T S x y z)] G Q from ?_)
  exact Pv.ret rfl (by rw [hQ]; exact ⟨rfl, h1, h2, h3⟩)
set_option maxRecDepth 100000 in
set_option maxHeartbeats 4000000 in
theorem o_bare {F : FW} {t : Nat} {T : St} {S : Sh} (hG : GW F) (ht : F.2.1 0 13 = .ref t) (hT : TR F t T) (hS : SHR F 12 (t_m T) S) (j0 : t = 45 ∨ t = 53) {n : Nat} {H : Nat → Sh} (hH : HST F (t_m T) n H) (h88 : 88 ≤ F.2.2.2.1) (x y z : Int32) : Pm Z_X10_bare [.ref 0, .int x, .int y, .int z] F (fun r F' => r = some (.int (a_act 1 T S x y z)) ∧ HK (decide (a_act 1 T S x y z = 0)) F' (t_m T) n H S ∧ SHR F' 12 (t_m T) (m_act 1 T S x y z) ∧ KF (fun q => 12 ≤ q ∧ q ≤ 19) F F') := by
  refine Pm.of fun N => ?_
  obtain ⟨Q, hQ⟩ : ∃ Q : Option Value → FW → Prop, Q = (fun r F' => r = some (.int (a_act 1 T S x y z)) ∧ HK (decide (a_act 1 T S x y z = 0)) F' (t_m T) n H S ∧ SHR F' 12 (t_m T) (m_act 1 T S x y z) ∧ KF (fun q => 12 ≤ q ∧ q ≤ 19) F F') := ⟨_, rfl⟩
  rw [← hQ]
  refine (show Pv (ab_T (L_X10_bare Z_X10_act)) N 0 [some (.ref 0), some (.int x), some (.int y), some (.int z)] [] F Q from ?_)
  refine Pv.aload rfl rfl ?_
  refine Pv.lit rfl ?_
  refine Pv.iload rfl rfl ?_
  refine Pv.iload rfl rfl ?_
  refine Pv.iload rfl rfl ?_
  refine Pv.callV (as := [.ref 0, .int 1, .int x, .int y, .int z]) (rest := []) rfl rfl rfl (o_act (d := 1) hG ht hT hS j0 hH h88 (by decide) x y z) ?_
  rintro _ G ⟨rfl, h1, h2, h3⟩
  refine (show Pv _ _ 8 [some (.ref 0), some (.int x), some (.int y), some (.int z)] [.int (a_act 1 T S x y z)] G Q from ?_)
  exact Pv.ret rfl (by rw [hQ]; exact ⟨rfl, h1, h2, h3⟩)
set_option maxRecDepth 100000 in
set_option maxHeartbeats 4000000 in
theorem o_waste {F : FW} {t : Nat} {T : St} {S : Sh} (hG : GW F) (ht : F.2.1 0 13 = .ref t) (hT : TR F t T) (hS : SHR F 12 (t_m T) S) (j0 : t = 45 ∨ t = 53) {n : Nat} {H : Nat → Sh} (hH : HST F (t_m T) n H) (h88 : 88 ≤ F.2.2.2.1) (x y z : Int32) : Pm Z_X10_waste [.ref 0, .int x, .int y, .int z] F (fun r F' => r = some (.int (a_act 2 T S x y z)) ∧ HK (decide (a_act 2 T S x y z = 0)) F' (t_m T) n H S ∧ SHR F' 12 (t_m T) (m_act 2 T S x y z) ∧ KF (fun q => 12 ≤ q ∧ q ≤ 19) F F') := by
  refine Pm.of fun N => ?_
  obtain ⟨Q, hQ⟩ : ∃ Q : Option Value → FW → Prop, Q = (fun r F' => r = some (.int (a_act 2 T S x y z)) ∧ HK (decide (a_act 2 T S x y z = 0)) F' (t_m T) n H S ∧ SHR F' 12 (t_m T) (m_act 2 T S x y z) ∧ KF (fun q => 12 ≤ q ∧ q ≤ 19) F F') := ⟨_, rfl⟩
  rw [← hQ]
  refine (show Pv (ab_T (L_X10_waste Z_X10_act)) N 0 [some (.ref 0), some (.int x), some (.int y), some (.int z)] [] F Q from ?_)
  refine Pv.aload rfl rfl ?_
  refine Pv.lit rfl ?_
  refine Pv.iload rfl rfl ?_
  refine Pv.iload rfl rfl ?_
  refine Pv.iload rfl rfl ?_
  refine Pv.callV (as := [.ref 0, .int 2, .int x, .int y, .int z]) (rest := []) rfl rfl rfl (o_act (d := 2) hG ht hT hS j0 hH h88 (by decide) x y z) ?_
  rintro _ G ⟨rfl, h1, h2, h3⟩
  refine (show Pv _ _ 8 [some (.ref 0), some (.int x), some (.int y), some (.int z)] [.int (a_act 2 T S x y z)] G Q from ?_)
  exact Pv.ret rfl (by rw [hQ]; exact ⟨rfl, h1, h2, h3⟩)
