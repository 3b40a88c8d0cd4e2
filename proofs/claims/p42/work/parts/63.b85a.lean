set_option maxRecDepth 100000 in
set_option maxHeartbeats 4000000 in
theorem o_liveLine {F : FW} {t d w x : Nat} {T : St} {S : Sh} (hG : GW F) (ht : F.2.1 0 13 = .ref t) (hT : TR F t T) (hS : SHR F 20 (t_m T) S) (j0 : t = 45 ∨ t = 53) (hL : LYK T (d, w, x)) : Pm Z_X10_liveLine [.ref 0, .int (Int32.ofNat d), .int (Int32.ofNat w), .int (Int32.ofNat x)] F (fun r F' => r = some (.int (jw S (d, w, x))) ∧ FX (fun q => (20 ≤ q ∧ q ≤ 27) ∨ (7 ≤ q ∧ q ≤ 9)) F F' ∧ SHR F' 20 (t_m T) (js T S (d, w, x))) := by
  refine Pm.of fun N => ?_
  obtain ⟨Q, hQ⟩ : ∃ Q : Option Value → FW → Prop, Q = (fun r F' => r = some (.int (jw S (d, w, x))) ∧ FX (fun q => (20 ≤ q ∧ q ≤ 27) ∨ (7 ≤ q ∧ q ≤ 9)) F F' ∧ SHR F' 20 (t_m T) (js T S (d, w, x))) := ⟨_, rfl⟩
  rw [← hQ]
  have b3 := hT.mb
  have b4 := hT.nb
  have b5 := hT.gb
  have b7 := hS.db
  have hL1 : d ≤ 4 := hL.1
  have hL4 : d = 4 → 1 ≤ x ∧ x ≤ 60 := hL.2.2.2
  refine (show Pv (ab_T (L_X10_liveLine Z_X1_passDays Z_X6_attempt)) N 0 [some (.ref 0), some (.int (Int32.ofNat d)), some (.int (Int32.ofNat w)), some (.int (Int32.ofNat x)), none] [] F Q from ?_)
  refine Pv.iload rfl rfl ?_
  refine Pv.lit rfl ?_
  refine Pv.icmp rfl (fun c1 => ?_) (fun c1 => ?_)
  · skip
    replace c1 : decide (Int32.ofNat d = 4) = false := by simpa using c1
    replace c1 := mt (i_eq (a := d) (b := 4) (by omega) (by omega)).mpr (of_decide_eq_false c1)
    refine Pv.aload rfl rfl ?_
    refine Pv.getR (v := .ref 20) rfl rfl (GW.at (a := 0) (k := 5) (b := 20) hG (by decide)) ?_
    refine Pv.iload rfl rfl ?_
    refine Pv.iload rfl rfl ?_
    refine Pv.iload rfl rfl ?_
    refine Pv.callV (as := [.ref 20, .int (Int32.ofNat d), .int (Int32.ofNat w), .int (Int32.ofNat x)]) (rest := []) rfl rfl rfl (f_attempt4 hS b3 hL (by omega)) ?_
    rintro _ G ⟨rfl, x1, x2⟩
    refine (show Pv _ _ 52 [some (.ref 0), some (.int (Int32.ofNat d)), some (.int (Int32.ofNat w)), some (.int (Int32.ofNat x)), none] [.int (m_why d S w (Int32.ofNat x))] G Q from ?_)
    refine Pv.istore (lo' := [some (.ref 0), some (.int (Int32.ofNat d)), some (.int (Int32.ofNat w)), some (.int (Int32.ofNat x)), some (.int (m_why d S w (Int32.ofNat x)))]) rfl rfl ?_
    refine Pv.iload rfl rfl ?_
    refine Pv.if0 rfl (fun c2 => ?_) (fun c2 => ?_)
    · skip
      replace c2 : decide (m_why d S w (Int32.ofNat x) = 0) = false := by simpa using c2
      replace c2 := of_decide_eq_false c2
      refine Pv.lit rfl ?_
      refine Pv.iload rfl rfl ?_
      refine Pv.bin (z := Int32.ofNat (10 * d)) rfl (i_mul 10 d) ?_
      refine Pv.iload rfl rfl ?_
      refine Pv.bin (z := (Int32.ofNat (10 * d)) + (m_why d S w (Int32.ofNat x))) rfl (rfl) ?_
      exact Pv.ret rfl (by rw [hQ]; exact ⟨by unfold jw; rw [if_neg (show ¬ d = 4 by omega), if_neg c2], x1.wd (fun q c => Or.inl (by omega)), by unfold js; rw [if_neg (show ¬ d = 4 by omega)]; exact x2⟩)
    · skip
      replace c2 : decide (m_why d S w (Int32.ofNat x) = 0) = true := by simpa using c2
      replace c2 := of_decide_eq_true c2
      refine Pv.lit rfl ?_
      refine Pv.goto rfl ?_
      exact Pv.ret rfl (by rw [hQ]; exact ⟨by unfold jw; rw [if_neg (show ¬ d = 4 by omega), if_pos c2], x1.wd (fun q c => Or.inl (by omega)), by unfold js; rw [if_neg (show ¬ d = 4 by omega)]; exact x2⟩)
  · skip
    replace c1 : decide (Int32.ofNat d = 4) = true := by simpa using c1
    replace c1 := (i_eq (a := d) (b := 4) (by omega) (by omega)).mp (of_decide_eq_true c1)
    refine Pv.lit rfl ?_
    refine Pv.aload rfl rfl ?_
    refine Pv.getR (v := .ref 20) rfl rfl (GW.at (a := 0) (k := 5) (b := 20) hG (by decide)) ?_
    refine Pv.getI (z := Int32.ofNat (h_d S)) rfl rfl (hS.d) ?_
    refine Pv.bin (z := Int32.ofNat (400 - h_d S)) rfl (i_subN (a := 400) (b := h_d S) b7) ?_
    refine Pv.iload rfl rfl ?_
    refine Pv.icmp rfl (fun c3 => ?_) (fun c3 => ?_)
    · skip
      replace c3 := (i_le (a := x) (b := 400 - h_d S) (by omega) (by omega)).mp (of_decide_eq_true c3)
      refine Pv.aload rfl rfl ?_
      refine Pv.getR (v := .ref 7) rfl rfl (GW.at (a := 0) (k := 2) (b := 7) hG (by decide)) ?_
      refine Pv.aload rfl rfl ?_
      refine Pv.getR (v := .ref t) rfl rfl (ht) ?_
      refine Pv.aload rfl rfl ?_
      refine Pv.getR (v := .ref 20) rfl rfl (GW.at (a := 0) (k := 5) (b := 20) hG (by decide)) ?_
      refine Pv.iload rfl rfl ?_
      refine Pv.callV (as := [.ref 7, .ref t, .ref 20, .int (Int32.ofNat x)]) (rest := []) rfl rfl rfl (f_passDays (n := x) hT hS hG (by omega) (by omega) (by omega) (by omega)) ?_
      rintro _ G ⟨rfl, x1, x2, x3⟩
      refine (show Pv _ _ 39 [some (.ref 0), some (.int (Int32.ofNat d)), some (.int (Int32.ofNat w)), some (.int (Int32.ofNat x)), none] [.int (Int32.ofNat (h_d (m_days T S x)) - Int32.ofNat (h_d S))] G Q from ?_)
      refine Pv.pop rfl ?_
      refine Pv.lit rfl ?_
      have e : h_d S + x ≤ 400 := by omega
      exact Pv.ret rfl (by rw [hQ]; exact ⟨by unfold jw; rw [if_pos (show d = 4 by omega), if_pos e], x1.wd (fun q c => c), by unfold js; rw [if_pos (show d = 4 by omega), if_pos e]; exact x2⟩)
    · skip
      replace c3 := mt (i_le (a := x) (b := 400 - h_d S) (by omega) (by omega)).mpr (of_decide_eq_false c3)
      refine Pv.lit rfl ?_
      have e : ¬ h_d S + x ≤ 400 := by omega
      exact Pv.ret rfl (by rw [hQ]; exact ⟨by unfold jw; rw [if_pos (show d = 4 by omega), if_neg e], FX.rf, by unfold js; rw [if_pos (show d = 4 by omega), if_neg e]; exact hS⟩)
