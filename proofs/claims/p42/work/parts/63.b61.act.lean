set_option maxRecDepth 100000 in
set_option maxHeartbeats 4000000 in
theorem o_act {F : FW} {t : Nat} {T : St} {S : Sh} (hG : GW F) (ht : F.2.1 0 13 = .ref t) (hT : TR F t T) (hS : SHR F 12 (t_m T) S) (j0 : t = 45 ∨ t = 53) {n : Nat} {H : Nat → Sh} (hH : HST F (t_m T) n H) (h88 : 88 ≤ F.2.2.2.1) {d : Nat} (hd : d < 3) (x y z : Int32) : Pm Z_X10_act [.ref 0, .int (Int32.ofNat d), .int x, .int y, .int z] F (fun r F' => r = some (.int (a_act d T S x y z)) ∧ HK (decide (a_act d T S x y z = 0)) F' (t_m T) n H S ∧ SHR F' 12 (t_m T) (m_act d T S x y z) ∧ KF (fun q => 12 ≤ q ∧ q ≤ 19) F F') := by
  refine Pm.of fun N => ?_
  obtain ⟨Q, hQ⟩ : ∃ Q : Option Value → FW → Prop, Q = (fun r F' => r = some (.int (a_act d T S x y z)) ∧ HK (decide (a_act d T S x y z = 0)) F' (t_m T) n H S ∧ SHR F' 12 (t_m T) (m_act d T S x y z) ∧ KF (fun q => 12 ≤ q ∧ q ≤ 19) F F') := ⟨_, rfl⟩
  rw [← hQ]
  have b3 := hT.mb
  have b4 := hT.nb
  have b5 := hT.gb
  have b6 := m_from_lt S
  have b7 := hS.db
  refine (show Pv (ab_T (L_X10_act Z_X10_isSlot Z_X10_isWithin Z_X10_slotOf Z_X6_whyNot Z_X2_keep Z_X6_perform)) N 0 [some (.ref 0), some (.int (Int32.ofNat d)), some (.int x), some (.int y), some (.int z), none, none] [] F Q from ?_)
  refine Pv.aload rfl rfl ?_
  refine Pv.iload rfl rfl ?_
  refine Pv.iload rfl rfl ?_
  refine Pv.callVI (as := [.ref 0, .int x, .int y]) (rest := []) (z := b2i ((nd (t_g T) x).isSome && (nd 2 y).isSome)) rfl rfl rfl (o_isSlot hG ht hT hS j0 x y) ?_
  refine Pv.if0 rfl (fun c1 => ?_) (fun c1 => ?_)
  · skip
    replace c1 := of_decide_eq_true c1
    replace c1 := b2z.mp c1
    refine Pv.lit rfl ?_
    have e : a_act d T S x y z = -1 := by unfold a_act; rw [aGS_f c1]
    exact Pv.ret rfl (by rw [hQ]; exact ⟨by rw [e], HK.f hH (by rw [e]; rfl), by rw [m_act_f c1]; exact hS, KF.rf⟩)
  · skip
    replace c1 := of_decide_eq_false c1
    replace c1 := b2n.mp c1
    obtain ⟨g, s, hg, hs, hgl, hsl, rfl, rfl⟩ := gs_t c1
    refine Pv.iload rfl rfl ?_
    refine Pv.lit rfl ?_
    refine Pv.callI (as := [.int z, .int 250]) (rest := []) (z := b2i (decide (1 ≤ z) && decide (z ≤ 250))) rfl rfl rfl ((o_isWithin z 250)) ?_
    refine Pv.if0 rfl (fun c2 => ?_) (fun c2 => ?_)
    · skip
      replace c2 : decide (b2i (decide (1 ≤ z) && decide (z ≤ 250)) = 0) = false := by simpa using c2
      replace c2 := of_decide_eq_false c2
      replace c2 := b2n.mp c2
      obtain ⟨k, hn, hna, hnb, rfl⟩ := ndr_t ((ndr_in (a := 1) (b := 250) (by omega) (by omega)).symm.trans c2)
      refine Pv.iload rfl rfl ?_
      refine Pv.iload rfl rfl ?_
      refine Pv.callI (as := [.int (Int32.ofNat g), .int (Int32.ofNat s)]) (rest := []) (z := Int32.ofNat (2 * g + s)) rfl rfl rfl (f_slotOf (g := g) (s := s)) ?_
      refine Pv.istore (lo' := [some (.ref 0), some (.int (Int32.ofNat d)), some (.int (Int32.ofNat g)), some (.int (Int32.ofNat s)), some (.int (Int32.ofNat k)), some (.int (Int32.ofNat (2 * g + s))), none]) rfl rfl ?_
      refine Pv.aload rfl rfl ?_
      refine Pv.getR (v := .ref 12) rfl rfl (GW.at (a := 0) (k := 4) (b := 12) hG (by decide)) ?_
      refine Pv.iload rfl rfl ?_
      refine Pv.iload rfl rfl ?_
      refine Pv.iload rfl rfl ?_
      refine Pv.callVI (as := [.ref 12, .int (Int32.ofNat d), .int (Int32.ofNat (2 * g + s)), .int (Int32.ofNat k)]) (rest := []) (z := m_why d S (2 * g + s) (Int32.ofNat k)) rfl rfl rfl (f_why hS (by omega) (by omega) hd) ?_
      refine Pv.istore (lo' := [some (.ref 0), some (.int (Int32.ofNat d)), some (.int (Int32.ofNat g)), some (.int (Int32.ofNat s)), some (.int (Int32.ofNat k)), some (.int (Int32.ofNat (2 * g + s))), some (.int (m_why d S (2 * g + s) (Int32.ofNat k)))]) rfl rfl ?_
      refine Pv.iload rfl rfl ?_
      refine Pv.if0 rfl (fun c3 => ?_) (fun c3 => ?_)
      · skip
        replace c3 : decide (m_why d S (2 * g + s) (Int32.ofNat k) = 0) = false := by simpa using c3
        replace c3 := of_decide_eq_false c3
        refine Pv.iload rfl rfl ?_
        have e : a_act d T S (Int32.ofNat g) (Int32.ofNat s) (Int32.ofNat k) = m_why d S (2 * g + s) (Int32.ofNat k) := by unfold a_act; rw [aGS_t hg hs, hn]
        exact Pv.ret rfl (by rw [hQ]; exact ⟨by rw [e], HK.f hH (by rw [e]; exact decide_eq_false c3), by rw [m_act_y hg hs hn]; unfold m_try; rw [if_neg c3]; exact hS, KF.rf⟩)
      · skip
        replace c3 : decide (m_why d S (2 * g + s) (Int32.ofNat k) = 0) = true := by simpa using c3
        replace c3 := of_decide_eq_true c3
        refine Pv.aload rfl rfl ?_
        refine Pv.getR (v := .ref 10) rfl rfl (GW.at (a := 0) (k := 3) (b := 10) hG (by decide)) ?_
        refine Pv.aload rfl rfl ?_
        refine Pv.getR (v := .ref 12) rfl rfl (GW.at (a := 0) (k := 4) (b := 12) hG (by decide)) ?_
        refine Pv.callV (as := [.ref 10, .ref 12]) (rest := []) rfl rfl rfl (f_keep hG hH hS b3 h88) ?_
        rintro _ G ⟨rfl, hH2, hK⟩
        have hG2 := hK.gw hH hG h88
        have hS2 := hK.sh hH hS (by omega) (by omega) h88
        have hT2 := hK.st hH hT (by omega) (by omega) h88
        have ht2 : G.2.1 0 13 = .ref t := ((hK.2.2.1 0 (by omega) (by omega) (by omega) (hH.ns (by omega))).2.1 13).trans ht
        refine (show Pv _ _ 59 [some (.ref 0), some (.int (Int32.ofNat d)), some (.int (Int32.ofNat g)), some (.int (Int32.ofNat s)), some (.int (Int32.ofNat k)), some (.int (Int32.ofNat (2 * g + s))), some (.int (m_why d S (2 * g + s) (Int32.ofNat k)))] [] G Q from ?_)
        refine Pv.aload rfl rfl ?_
        refine Pv.getR (v := .ref 12) rfl rfl (GW.at (a := 0) (k := 4) (b := 12) hG2 (by decide)) ?_
        refine Pv.iload rfl rfl ?_
        refine Pv.iload rfl rfl ?_
        refine Pv.iload rfl rfl ?_
        refine Pv.callV (as := [.ref 12, .int (Int32.ofNat d), .int (Int32.ofNat (2 * g + s)), .int (Int32.ofNat k)]) (rest := []) rfl rfl rfl (f_perf hS2 (by omega) (by omega) hd) ?_
        rintro _ G4 ⟨rfl, x5, sr7⟩
        have hx6 := FX.tr (P := fun q => 12 ≤ q ∧ q ≤ 19) FX.rf (x5.wd (fun q (c : 12 ≤ q ∧ q ≤ 12 + 7) => (show 12 ≤ q ∧ q ≤ 19 by omega)))
        have hx8 := hT2.fx (P := fun q => 12 ≤ q ∧ q ≤ 12 + 7) x5 (fun q h1 h2 (c : 12 ≤ q ∧ q ≤ 12 + 7) => by omega)
        have hx9 := hG2.fx (P := fun q => 12 ≤ q ∧ q ≤ 12 + 7) x5
        have hr10 : G4.2.1 0 13 = .ref t := by rw [x5.2.2.1]; exact ht2
        refine (show Pv _ _ 71 [some (.ref 0), some (.int (Int32.ofNat d)), some (.int (Int32.ofNat g)), some (.int (Int32.ofNat s)), some (.int (Int32.ofNat k)), some (.int (Int32.ofNat (2 * g + s))), some (.int (m_why d S (2 * g + s) (Int32.ofNat k)))] [] G4 Q from ?_)
        refine Pv.iload rfl rfl ?_
        have e : a_act d T S (Int32.ofNat g) (Int32.ofNat s) (Int32.ofNat k) = m_why d S (2 * g + s) (Int32.ofNat k) := by unfold a_act; rw [aGS_t hg hs, hn]
        exact Pv.ret rfl (by rw [hQ]; exact ⟨by rw [e], HK.t (hH2.fx (P := fun q => 12 ≤ q ∧ q ≤ 19) hx6 (fun q (c : 12 ≤ q ∧ q ≤ 19) => by omega)) (by rw [e]; exact decide_eq_true c3), by rw [m_act_y hg hs hn]; unfold m_try; rw [if_pos c3]; exact sr7, hK.wide.fx (R := fun q => 12 ≤ q ∧ q ≤ 19) hx6 (fun q _ c => c)⟩)
    · skip
      replace c2 : decide (b2i (decide (1 ≤ z) && decide (z ≤ 250)) = 0) = true := by simpa using c2
      replace c2 := of_decide_eq_true c2
      replace c2 := b2z.mp c2
      refine Pv.lit rfl ?_
      have e : a_act d T S (Int32.ofNat g) (Int32.ofNat s) z = -1 := by unfold a_act; rw [aGS_t hg hs, ndr_f ((ndr_in (a := 1) (b := 250) (by omega) (by omega)).symm.trans c2)]
      exact Pv.ret rfl (by rw [hQ]; exact ⟨by rw [e], HK.f hH (by rw [e]; rfl), by rw [m_act_n hg hs (ndr_f ((ndr_in (a := 1) (b := 250) (by omega) (by omega)).symm.trans c2))]; exact hS, KF.rf⟩)
