set_option maxRecDepth 100000 in
set_option maxHeartbeats 4000000 in
theorem r_lg249z {F F0 : FW} {a : Int32} {o2 o4 : Option Value} (hG : GW F) (hR : RTL F0 F) (N : Nat) : Pv (ab_T (L_X11_log Z_X11_isIn Z_X11_taken Z_X11_next Z_X11_logLine Z_X11_sign Z_X11_tries Z_X11_does Z_X11_keep Z_X11_back)) N 249 [some (.ref 69), some (.int 0), o2, some (.int a), o4] [] F (fun r F' => r = some (.int a) ∧ RTB F0 F' ∧ FX (fun q => q = 71) F F') := by
  obtain ⟨Q, hQ⟩ : ∃ Q : Option Value → FW → Prop, Q = (fun r F' => r = some (.int a) ∧ RTB F0 F' ∧ FX (fun q => q = 71) F F') := ⟨_, rfl⟩
  rw [← hQ]
  refine (show Pv (ab_T (L_X11_log Z_X11_isIn Z_X11_taken Z_X11_next Z_X11_logLine Z_X11_sign Z_X11_tries Z_X11_does Z_X11_keep Z_X11_back)) N 249 [some (.ref 69), some (.int 0), o2, some (.int a), o4] [] F Q from ?_)
  refine Pv.iload rfl rfl ?_
  refine Pv.lit rfl ?_
  refine Pv.icmp rfl (fun c1 => ?_) (fun c1 => ?_)
  · skip
    replace c1 : decide ((0 : Int32) = 1) = false := by simpa using c1
    replace c1 := mt (i_eq (a := 0) (b := 1) (by omega) (by omega)).mpr (of_decide_eq_false c1)
    refine Pv.iload rfl rfl ?_
    refine Pv.if0 rfl (fun c2 => ?_) (fun c2 => ?_)
    · skip
      replace c2 : decide ((0 : Int32) = 0) = false := by simpa using c2
      replace c2 := mt (i_eq (a := 0) (b := 0) (by omega) (by omega)).mpr (of_decide_eq_false c2)
      omega
    · skip
      replace c2 : decide ((0 : Int32) = 0) = true := by simpa using c2
      replace c2 := (i_eq (a := 0) (b := 0) (by omega) (by omega)).mp (of_decide_eq_true c2)
      refine Pv.aload rfl rfl ?_
      refine Pv.callV (as := [.ref 69]) (rest := []) rfl rfl rfl (g_back hG) ?_
      rintro _ G ⟨rfl, x1, x2, x3⟩
      refine (show Pv _ _ 317 [some (.ref 69), some (.int 0), o2, some (.int a), o4] [] G Q from ?_)
      refine Pv.iload rfl rfl ?_
      exact Pv.ret rfl (by rw [hQ]; exact ⟨rfl, RTL.bk hR x1 x2 x3, x1⟩)
  · skip
    replace c1 : decide ((0 : Int32) = 1) = true := by simpa using c1
    replace c1 := (i_eq (a := 0) (b := 1) (by omega) (by omega)).mp (of_decide_eq_true c1)
    omega
set_option maxRecDepth 100000 in
set_option maxHeartbeats 4000000 in
theorem r_lg249y {F F0 : FW} {m n kk : Nat} {S S2 : Sh} {H : Nat → Sh} {a : Int32} {o2 o4 : Option Value} (hG : GW F) (hR : RTL F0 F) (hm8 : m ≤ 8) (hS0 : XS F0 m S) (hS : XS F m S2) (hH : HSX F m n H) (h81 : F.1 81 1 = Int32.ofNat kk) (hkk : kk ≤ 40) (N : Nat) : Pv (ab_T (L_X11_log Z_X11_isIn Z_X11_taken Z_X11_next Z_X11_logLine Z_X11_sign Z_X11_tries Z_X11_does Z_X11_keep Z_X11_back)) N 249 [some (.ref 69), some (.int 1), o2, some (.int a), o4] [] F (fun r F' => r = some (.int a) ∧ (kk = 0 → F' = F) ∧ (0 < kk → KPL F F' ∧ HSX F' m (m_kn n) (m_kH n H S))) := by
  obtain ⟨Q, hQ⟩ : ∃ Q : Option Value → FW → Prop, Q = (fun r F' => r = some (.int a) ∧ (kk = 0 → F' = F) ∧ (0 < kk → KPL F F' ∧ HSX F' m (m_kn n) (m_kH n H S))) := ⟨_, rfl⟩
  rw [← hQ]
  refine (show Pv (ab_T (L_X11_log Z_X11_isIn Z_X11_taken Z_X11_next Z_X11_logLine Z_X11_sign Z_X11_tries Z_X11_does Z_X11_keep Z_X11_back)) N 249 [some (.ref 69), some (.int 1), o2, some (.int a), o4] [] F Q from ?_)
  refine Pv.iload rfl rfl ?_
  refine Pv.lit rfl ?_
  refine Pv.icmp rfl (fun c1 => ?_) (fun c1 => ?_)
  · skip
    replace c1 : decide ((1 : Int32) = 1) = false := by simpa using c1
    replace c1 := mt (i_eq (a := 1) (b := 1) (by omega) (by omega)).mpr (of_decide_eq_false c1)
    omega
  · skip
    replace c1 : decide ((1 : Int32) = 1) = true := by simpa using c1
    replace c1 := (i_eq (a := 1) (b := 1) (by omega) (by omega)).mp (of_decide_eq_true c1)
    refine Pv.aload rfl rfl ?_
    refine Pv.getR (v := .ref 81) rfl rfl (GW.at (a := 69) (k := 31) (b := 81) hG (by decide)) ?_
    refine Pv.lit rfl ?_
    refine Pv.ald (z := Int32.ofNat kk) rfl (h81) ?_
    refine Pv.if0 rfl (fun c2 => ?_) (fun c2 => ?_)
    · skip
      replace c2 := (i_le (a := kk) (b := 0) (by omega) (by omega)).mp (of_decide_eq_true c2)
      refine Pv.iload rfl rfl ?_
      refine Pv.if0 rfl (fun c3 => ?_) (fun c3 => ?_)
      · skip
        replace c3 : decide ((1 : Int32) = 0) = false := by simpa using c3
        replace c3 := mt (i_eq (a := 1) (b := 0) (by omega) (by omega)).mpr (of_decide_eq_false c3)
        refine Pv.iload rfl rfl ?_
        exact Pv.ret rfl (by rw [hQ]; exact ⟨rfl, fun _ => rfl, fun z => absurd z (by omega)⟩)
      · skip
        replace c3 : decide ((1 : Int32) = 0) = true := by simpa using c3
        replace c3 := (i_eq (a := 1) (b := 0) (by omega) (by omega)).mp (of_decide_eq_true c3)
        omega
    · skip
      replace c2 := mt (i_le (a := kk) (b := 0) (by omega) (by omega)).mpr (of_decide_eq_false c2)
      refine Pv.aload rfl rfl ?_
      refine Pv.callV (as := [.ref 69]) (rest := []) rfl rfl rfl (g_keep hm8 hS hG hH) ?_
      rintro _ G ⟨rfl, x1, x2, x3, x4⟩
      refine (show Pv _ _ 267 [some (.ref 69), some (.int 1), o2, some (.int a), o4] [] G Q from ?_)
      refine Pv.lit rfl ?_
      refine Pv.istore (lo' := [some (.ref 69), some (.int 1), o2, some (.int a), some (.int 0)]) rfl rfl ?_
      have x5 : HSX G m (m_kn n - 1 + 1) (m_kH n H S2) := by rw [← m_kn_p]; exact x4
      refine Pv.imp (r_lg270 (p := m_kn n - 1) hm8 (hG.fx x1) x5 hS0 (fun k hk => (x1.1 78 k (by decide)).trans (hR.2.1 k hk)) _) ?_
      rintro r F' ⟨e, y1, y2⟩
      rw [hQ]
      refine ⟨e, fun z => absurd z (by omega), fun _ => ⟨⟨x1.tr (y1.wd fun q c => Or.inl c), fun j => (y1.1 71 j (by decide)).trans (x2 j), fun j c => (y1.1 69 j (by decide)).trans (x3 j c)⟩, ?_⟩⟩
      rw [← m_kn_p] at y2
      exact HSX.cg y2 fun j hj => m_kH_r hH.2.1 hj
