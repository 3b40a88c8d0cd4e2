set_option maxRecDepth 100000 in
set_option maxHeartbeats 4000000 in
theorem r_lg216z {F F0 : FW} {m n kk : Nat} {S S2 : Sh} {H : Nat → Sh} {a c0 : Int32} {o4 : Option Value} (hG : GW F) (hR : RTL F0 F) (hm8 : m ≤ 8) (hS0 : XS F0 m S) (hS : XS F m S2) (hH : HSX F m n H) (h80 : F.1 81 0 = c0) (h81 : F.1 81 1 = Int32.ofNat kk) (hkk : kk ≤ 40) (N : Nat) : Pv (ab_T (L_X11_log Z_X11_isIn Z_X11_taken Z_X11_next Z_X11_logLine Z_X11_sign Z_X11_tries Z_X11_does Z_X11_keep Z_X11_back)) N 216 [some (.ref 69), some (.int 0), some (.int (m_sum (h_u S) 12)), some (.int a), o4] [] F (fun r F' => r = some (.int a) ∧ LGO F0 F' m n S S2 H 0 kk c0) := by
  obtain ⟨Q, hQ⟩ : ∃ Q : Option Value → FW → Prop, Q = (fun r F' => r = some (.int a) ∧ LGO F0 F' m n S S2 H 0 kk c0) := ⟨_, rfl⟩
  rw [← hQ]
  refine (show Pv (ab_T (L_X11_log Z_X11_isIn Z_X11_taken Z_X11_next Z_X11_logLine Z_X11_sign Z_X11_tries Z_X11_does Z_X11_keep Z_X11_back)) N 216 [some (.ref 69), some (.int 0), some (.int (m_sum (h_u S) 12)), some (.int a), o4] [] F Q from ?_)
  refine Pv.aload rfl rfl ?_
  refine Pv.getR (v := .ref 81) rfl rfl (GW.at (a := 69) (k := 31) (b := 81) hG (by decide)) ?_
  refine Pv.lit rfl ?_
  refine Pv.aload rfl rfl ?_
  refine Pv.getR (v := .ref 71) rfl rfl (GW.at (a := 69) (k := 6) (b := 71) hG (by decide)) ?_
  refine Pv.lit rfl ?_
  refine Pv.ald (z := Int32.ofNat (h_d S2)) rfl (hS.d) ?_
  refine Pv.astk (k := 2) (z := Int32.ofNat (h_d S2)) rfl (rfl) (rfl) ?_
  refine Pv.aload rfl rfl ?_
  refine Pv.getR (v := .ref 81) rfl rfl (GW.at (a := 69) (k := 31) (b := 81) hG (by decide)) ?_
  refine Pv.lit rfl ?_
  refine Pv.aload rfl rfl ?_
  refine Pv.getR (v := .ref 71) rfl rfl (GW.at (a := 69) (k := 6) (b := 71) hG (by decide)) ?_
  refine Pv.lit rfl ?_
  refine Pv.ald (z := m_sum (h_u S2) 12) rfl ((fp_ne (Or.inl (by decide))).trans (hS.st)) ?_
  refine Pv.iload rfl rfl ?_
  refine Pv.bin (z := (m_sum (h_u S2) 12) - (m_sum (h_u S) 12)) rfl (rfl) ?_
  refine Pv.astk (k := 3) (z := (m_sum (h_u S2) 12) - (m_sum (h_u S) 12)) rfl (rfl) (rfl) ?_
  refine Pv.aload rfl rfl ?_
  refine Pv.lit rfl ?_
  refine Pv.putI rfl rfl ?_
  have f1 : LGF (fp (fp (fp F 81 2 (Int32.ofNat (h_d S2))) 81 3 ((m_sum (h_u S2) 12) - (m_sum (h_u S) 12))) 69 32 1) c0 kk S S2 := ⟨(fp_ne (Or.inl (by decide))).trans ((fp_ne (Or.inr (by decide))).trans ((fp_ne (Or.inr (by decide))).trans (h80))), (fp_ne (Or.inl (by decide))).trans ((fp_ne (Or.inr (by decide))).trans ((fp_ne (Or.inr (by decide))).trans (h81))), (fp_ne (Or.inl (by decide))).trans ((fp_ne (Or.inr (by decide))).trans (fp_eq)), (fp_ne (Or.inl (by decide))).trans (fp_eq), fp_eq⟩
  have hG1 : GW (fp (fp (fp F 81 2 (Int32.ofNat (h_d S2))) 81 3 ((m_sum (h_u S2) 12) - (m_sum (h_u S) 12))) 69 32 1) := (hG.fx (P := fun _ => True) (((((FX.rf (P := fun _ => True))).fp trivial).fp trivial).fp trivial))
  have hR1 : RTL F0 (fp (fp (fp F 81 2 (Int32.ofNat (h_d S2))) 81 3 ((m_sum (h_u S2) 12) - (m_sum (h_u S) 12))) 69 32 1) := (RTL.sd (RTL.st (RTL.st hR)) (Or.inr (Or.inr (Or.inr rfl))))
  refine Pv.imp (r_lg249z hG1 hR1 _) ?_
  rintro r G ⟨e, b, x⟩
  rw [hQ]
  exact ⟨e, LGO.z hm8 hS0 hH hR b x f1⟩
set_option maxRecDepth 100000 in
set_option maxHeartbeats 4000000 in
theorem r_lg216y {F F0 : FW} {m n kk : Nat} {S S2 : Sh} {H : Nat → Sh} {a c0 : Int32} {o4 : Option Value} (hG : GW F) (hR : RTL F0 F) (hm8 : m ≤ 8) (hS0 : XS F0 m S) (hS : XS F m S2) (hH : HSX F m n H) (h80 : F.1 81 0 = c0) (h81 : F.1 81 1 = Int32.ofNat kk) (hkk : kk ≤ 40) (N : Nat) : Pv (ab_T (L_X11_log Z_X11_isIn Z_X11_taken Z_X11_next Z_X11_logLine Z_X11_sign Z_X11_tries Z_X11_does Z_X11_keep Z_X11_back)) N 216 [some (.ref 69), some (.int 1), some (.int (m_sum (h_u S) 12)), some (.int a), o4] [] F (fun r F' => r = some (.int a) ∧ LGO F0 F' m n S S2 H 1 kk c0) := by
  obtain ⟨Q, hQ⟩ : ∃ Q : Option Value → FW → Prop, Q = (fun r F' => r = some (.int a) ∧ LGO F0 F' m n S S2 H 1 kk c0) := ⟨_, rfl⟩
  rw [← hQ]
  refine (show Pv (ab_T (L_X11_log Z_X11_isIn Z_X11_taken Z_X11_next Z_X11_logLine Z_X11_sign Z_X11_tries Z_X11_does Z_X11_keep Z_X11_back)) N 216 [some (.ref 69), some (.int 1), some (.int (m_sum (h_u S) 12)), some (.int a), o4] [] F Q from ?_)
  refine Pv.aload rfl rfl ?_
  refine Pv.getR (v := .ref 81) rfl rfl (GW.at (a := 69) (k := 31) (b := 81) hG (by decide)) ?_
  refine Pv.lit rfl ?_
  refine Pv.aload rfl rfl ?_
  refine Pv.getR (v := .ref 71) rfl rfl (GW.at (a := 69) (k := 6) (b := 71) hG (by decide)) ?_
  refine Pv.lit rfl ?_
  refine Pv.ald (z := Int32.ofNat (h_d S2)) rfl (hS.d) ?_
  refine Pv.astk (k := 2) (z := Int32.ofNat (h_d S2)) rfl (rfl) (rfl) ?_
  refine Pv.aload rfl rfl ?_
  refine Pv.getR (v := .ref 81) rfl rfl (GW.at (a := 69) (k := 31) (b := 81) hG (by decide)) ?_
  refine Pv.lit rfl ?_
  refine Pv.aload rfl rfl ?_
  refine Pv.getR (v := .ref 71) rfl rfl (GW.at (a := 69) (k := 6) (b := 71) hG (by decide)) ?_
  refine Pv.lit rfl ?_
  refine Pv.ald (z := m_sum (h_u S2) 12) rfl ((fp_ne (Or.inl (by decide))).trans (hS.st)) ?_
  refine Pv.iload rfl rfl ?_
  refine Pv.bin (z := (m_sum (h_u S2) 12) - (m_sum (h_u S) 12)) rfl (rfl) ?_
  refine Pv.astk (k := 3) (z := (m_sum (h_u S2) 12) - (m_sum (h_u S) 12)) rfl (rfl) (rfl) ?_
  refine Pv.aload rfl rfl ?_
  refine Pv.lit rfl ?_
  refine Pv.putI rfl rfl ?_
  have f1 : LGF (fp (fp (fp F 81 2 (Int32.ofNat (h_d S2))) 81 3 ((m_sum (h_u S2) 12) - (m_sum (h_u S) 12))) 69 32 1) c0 kk S S2 := ⟨(fp_ne (Or.inl (by decide))).trans ((fp_ne (Or.inr (by decide))).trans ((fp_ne (Or.inr (by decide))).trans (h80))), (fp_ne (Or.inl (by decide))).trans ((fp_ne (Or.inr (by decide))).trans ((fp_ne (Or.inr (by decide))).trans (h81))), (fp_ne (Or.inl (by decide))).trans ((fp_ne (Or.inr (by decide))).trans (fp_eq)), (fp_ne (Or.inl (by decide))).trans (fp_eq), fp_eq⟩
  have hG1 : GW (fp (fp (fp F 81 2 (Int32.ofNat (h_d S2))) 81 3 ((m_sum (h_u S2) 12) - (m_sum (h_u S) 12))) 69 32 1) := (hG.fx (P := fun _ => True) (((((FX.rf (P := fun _ => True))).fp trivial).fp trivial).fp trivial))
  have hR1 : RTL F0 (fp (fp (fp F 81 2 (Int32.ofNat (h_d S2))) 81 3 ((m_sum (h_u S2) 12) - (m_sum (h_u S) 12))) 69 32 1) := (RTL.sd (RTL.st (RTL.st hR)) (Or.inr (Or.inr (Or.inr rfl))))
  have hS1 : XS (fp (fp (fp F 81 2 (Int32.ofNat (h_d S2))) 81 3 ((m_sum (h_u S2) 12) - (m_sum (h_u S) 12))) 69 32 1) m S2 := (XS.sd (XS.sd (XS.sd hS hm8 (by decide)) hm8 (by decide)) hm8 (by decide))
  have hH1 : HSX (fp (fp (fp F 81 2 (Int32.ofNat (h_d S2))) 81 3 ((m_sum (h_u S2) 12) - (m_sum (h_u S) 12))) 69 32 1) m n H := (HSX.sd (HSX.sd (HSX.sd hH hm8 (by decide) (Or.inl (by decide))) hm8 (by decide) (Or.inl (by decide))) hm8 (by decide) (Or.inr (by decide)))
  refine Pv.imp (r_lg249y hG1 hR1 hm8 hS0 hS1 hH1 f1.2.1 hkk _) ?_
  rintro r G ⟨e, y1, y2⟩
  rw [hQ]
  exact ⟨e, LGO.y hm8 hR1 hS1 hH1 f1 y1 y2⟩
