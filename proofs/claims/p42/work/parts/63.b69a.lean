set_option maxRecDepth 100000 in
set_option maxHeartbeats 4000000 in
theorem q_which {F : FW} {T : St} {S : Sh} (hT : XT F T) (hS : XS F (t_m T) S) (hG : GW F) {n : Nat} (hn : F.1 69 2 = Int32.ofNat n) (hn9 : n ≤ 940) : Pm Z_X11_which [.ref 69] F (fun r F' => r = some (.int (a_which T n (fun q => F.1 70 q &&& 255))) ∧ F' = fp (fp (fp (fp (fp F 69 0 0) 69 3 (Int32.ofNat n)) 69 2 0) 69 4 0) 69 5 940) := by
  refine Pm.of fun N => ?_
  obtain ⟨Q, hQ⟩ : ∃ Q : Option Value → FW → Prop, Q = (fun r F' => r = some (.int (a_which T n (fun q => F.1 70 q &&& 255))) ∧ F' = fp (fp (fp (fp (fp F 69 0 0) 69 3 (Int32.ofNat n)) 69 2 0) 69 4 0) 69 5 940) := ⟨_, rfl⟩
  rw [← hQ]
  have b3 := hT.mb
  have b4 := hT.nb
  have b5 := hT.gb
  have b6 := m_from_lt S
  have b7 := hS.db
  refine (show Pv (ab_T (L_X11_which Z_X11_taken Z_X11_isIn Z_X11_octet Z_X11_cell Z_X11_lesser)) N 0 [some (.ref 69), none, none, none, none, none, none] [] F Q from ?_)
  refine Pv.aload rfl rfl ?_
  refine Pv.lit rfl ?_
  refine Pv.putI rfl rfl ?_
  refine Pv.aload rfl rfl ?_
  refine Pv.lit rfl ?_
  refine Pv.callV (as := [.ref 69, .int 940]) (rest := []) (Q' := (fun r F' => Pv (ab_T (L_X11_which Z_X11_taken Z_X11_isIn Z_X11_octet Z_X11_cell Z_X11_lesser)) N 12 [some (.ref 69), none, none, none, none, none, none] (r.toList ++ []) F' Q)) rfl rfl rfl ?_ (fun r F' h => h)
  refine Pm.of fun N2 => ?_
  obtain ⟨Q1, hQ1⟩ : ∃ Qx : Option Value → FW → Prop, Qx = (fun r F' => Pv (ab_T (L_X11_which Z_X11_taken Z_X11_isIn Z_X11_octet Z_X11_cell Z_X11_lesser)) N 12 [some (.ref 69), none, none, none, none, none, none] (r.toList ++ []) F' Q) := ⟨_, rfl⟩
  rw [← hQ1]
  refine (show Pv (ab_T L_X11_taken) N2 0 [some (.ref 69), some (.int 940)] [] (fp F 69 0 0) Q1 from ?_)
  refine Pv.aload rfl rfl ?_
  refine Pv.aload rfl rfl ?_
  refine Pv.getI (z := Int32.ofNat n) rfl rfl ((fp_ne (Or.inr (by decide))).trans (hn)) ?_
  refine Pv.putI rfl rfl ?_
  refine Pv.aload rfl rfl ?_
  refine Pv.lit rfl ?_
  refine Pv.putI rfl rfl ?_
  refine Pv.aload rfl rfl ?_
  refine Pv.lit rfl ?_
  refine Pv.putI rfl rfl ?_
  refine Pv.aload rfl rfl ?_
  refine Pv.iload rfl rfl ?_
  refine Pv.putI rfl rfl ?_
  refine Pv.vret rfl ?_
  rw [hQ1]
  refine (show Pv (ab_T (L_X11_which Z_X11_taken Z_X11_isIn Z_X11_octet Z_X11_cell Z_X11_lesser)) N 12 [some (.ref 69), none, none, none, none, none, none] [] (fp (fp (fp (fp (fp F 69 0 0) 69 3 (Int32.ofNat n)) 69 2 0) 69 4 0) 69 5 940) Q from ?_)
  refine Pv.aload rfl rfl ?_
  refine Pv.getI (z := Int32.ofNat n) rfl rfl ((fp_ne (Or.inr (by decide))).trans ((fp_ne (Or.inr (by decide))).trans ((fp_ne (Or.inr (by decide))).trans (fp_eq)))) ?_
  refine Pv.lit rfl ?_
  refine Pv.lit rfl ?_
  refine Pv.callI (as := [.int (Int32.ofNat n), .int 3, .int 31]) (rest := []) (z := b2i (decide (3 ≤ (Int32.ofNat n)) && decide ((Int32.ofNat n) ≤ 31))) rfl rfl rfl (q_isIn (Int32.ofNat n) 3 31) ?_
  refine Pv.if0 rfl (fun c3 => ?_) (fun c3 => ?_)
  · skip
    replace c3 := of_decide_eq_true c3
    replace c3 := b2z.mp c3
    refine Pv.lit rfl ?_
    exact Pv.ret rfl (by rw [hQ]; exact ⟨by unfold a_which; rw [if_neg (ndr_z (by omega) ((ndr_in (a := 3) (b := 31) (by omega) (by omega)).symm.trans c3))], rfl⟩)
  · skip
    replace c3 := of_decide_eq_false c3
    replace c3 := b2n.mp c3
    refine Pv.aload rfl rfl ?_
    refine Pv.lit rfl ?_
    refine Pv.callV (as := [.ref 69, .int 0]) (rest := []) (Q' := (fun r F' => Pv (ab_T (L_X11_which Z_X11_taken Z_X11_isIn Z_X11_octet Z_X11_cell Z_X11_lesser)) N 30 [some (.ref 69), none, none, none, none, none, none] (r.toList ++ []) F' Q)) rfl rfl rfl ?_ (fun r F' h => h)
    refine Pm.of fun N5 => ?_
    obtain ⟨Q4, hQ4⟩ : ∃ Qx : Option Value → FW → Prop, Qx = (fun r F' => Pv (ab_T (L_X11_which Z_X11_taken Z_X11_isIn Z_X11_octet Z_X11_cell Z_X11_lesser)) N 30 [some (.ref 69), none, none, none, none, none, none] (r.toList ++ []) F' Q) := ⟨_, rfl⟩
    rw [← hQ4]
    refine (show Pv (ab_T L_X11_octet) N5 0 [some (.ref 69), some (.int 0)] [] (fp (fp (fp (fp (fp F 69 0 0) 69 3 (Int32.ofNat n)) 69 2 0) 69 4 0) 69 5 940) Q4 from ?_)
    refine Pv.aload rfl rfl ?_
    refine Pv.getR (v := .ref 70) rfl rfl (GW.at (a := 69) (k := 1) (b := 70) hG (by decide)) ?_
    refine Pv.iload rfl rfl ?_
    refine Pv.ald (z := F.1 70 0) rfl ((fp_ne (Or.inl (by decide))).trans ((fp_ne (Or.inl (by decide))).trans ((fp_ne (Or.inl (by decide))).trans ((fp_ne (Or.inl (by decide))).trans (fp_ne (Or.inl (by decide))))))) ?_
    refine Pv.lit rfl ?_
    refine Pv.bin (z := (F.1 70 0) &&& 255) rfl (rfl) ?_
    refine Pv.ret rfl ?_
    rw [hQ4]
    refine (show Pv (ab_T (L_X11_which Z_X11_taken Z_X11_isIn Z_X11_octet Z_X11_cell Z_X11_lesser)) N 30 [some (.ref 69), none, none, none, none, none, none] [.int ((F.1 70 0) &&& 255)] (fp (fp (fp (fp (fp F 69 0 0) 69 3 (Int32.ofNat n)) 69 2 0) 69 4 0) 69 5 940) Q from ?_)
    refine Pv.lit rfl ?_
    refine Pv.icmp rfl (fun c6 => ?_) (fun c6 => ?_)
    · skip
      replace c6 := of_decide_eq_true c6
      obtain ⟨hn3, hn31⟩ := ndr_y (by omega) ((ndr_in (a := 3) (b := 31) (by omega) (by omega)).symm.trans c3)
      obtain ⟨s, hs, hsl, es⟩ := oct_2 c6
      refine Pv.lit rfl ?_
      refine Pv.istore (lo' := [some (.ref 69), some (.int 0), none, none, none, none, none]) rfl rfl ?_
      refine Pv.lit rfl ?_
      refine Pv.istore (lo' := [some (.ref 69), some (.int 0), some (.int 0), none, none, none, none]) rfl rfl ?_
      refine Pv.lp (ι := Nat × Int32 × (Option Value) × (Option Value) × (Option Value) × (Option Value)) (lof := fun ⟨k, b, o7, o8, o9, o10⟩ => [some (.ref 69), some (.int b), some (.int (Int32.ofNat k)), o7, o8, o9, o10]) (Ff := fun ⟨k, b, o7, o8, o9, o10⟩ => (fp (fp (fp (fp (fp F 69 0 0) 69 3 (Int32.ofNat n)) 69 2 0) 69 4 0) 69 5 940)) (P := fun ⟨k, b, o7, o8, o9, o10⟩ => k ≤ t_g T ∧ b = m_bits (fun g => m_wh T (2 * g + s) (fun q => F.1 70 q &&& 255) (n - 2)) id k) ?_ (0, 0, none, none, none, none) (⟨Nat.zero_le _, rfl⟩)
      rintro N11 hN12 ⟨k, b, o7, o8, o9, o10⟩ hi13 ih14
      refine (show Pv _ _ 40 [some (.ref 69), some (.int b), some (.int (Int32.ofNat k)), o7, o8, o9, o10] [] (fp (fp (fp (fp (fp F 69 0 0) 69 3 (Int32.ofNat n)) 69 2 0) 69 4 0) 69 5 940) Q from ?_)
      obtain ⟨hk, hb⟩ := hi13
      refine Pv.iloadS rfl rfl ?_
      refine Pv.aload rfl rfl ?_
      refine Pv.getR (v := .ref 71) rfl rfl (GW.at (a := 69) (k := 6) (b := 71) hG (by decide)) ?_
      refine Pv.lit rfl ?_
      refine Pv.ald (z := Int32.ofNat (t_g T)) rfl ((fp_ne (Or.inl (by decide))).trans ((fp_ne (Or.inl (by decide))).trans ((fp_ne (Or.inl (by decide))).trans ((fp_ne (Or.inl (by decide))).trans ((fp_ne (Or.inl (by decide))).trans (hT.g)))))) ?_
      refine Pv.icmp rfl (fun c15 => ?_) (fun c15 => ?_)
      · skip
        replace c15 := (i_le (a := t_g T) (b := k) (by omega) (by omega)).mp (of_decide_eq_true c15)
        refine Pv.iload rfl rfl ?_
        exact Pv.ret rfl (by rw [hQ]; exact ⟨by unfold a_which; rw [if_pos ⟨hn3, hn31⟩, hs]; dsimp only; rw [hb, show k = t_g T by omega], rfl⟩)
      · skip
        replace c15 := mt (i_le (a := t_g T) (b := k) (by omega) (by omega)).mpr (of_decide_eq_false c15)
        refine Pv.iload rfl rfl ?_
        refine Pv.aload rfl rfl ?_
        refine Pv.lit rfl ?_
        refine Pv.callV (as := [.ref 69, .int 0]) (rest := [.int (Int32.ofNat k)]) (Q' := (fun r F' => Pv (ab_T (L_X11_which Z_X11_taken Z_X11_isIn Z_X11_octet Z_X11_cell Z_X11_lesser)) N11 56 [some (.ref 69), some (.int b), some (.int (Int32.ofNat k)), o7, o8, o9, o10] (r.toList ++ [.int (Int32.ofNat k)]) F' Q)) rfl rfl rfl ?_ (fun r F' h => h)
        refine Pm.of fun N17 => ?_
        obtain ⟨Q16, hQ16⟩ : ∃ Qx : Option Value → FW → Prop, Qx = (fun r F' => Pv (ab_T (L_X11_which Z_X11_taken Z_X11_isIn Z_X11_octet Z_X11_cell Z_X11_lesser)) N11 56 [some (.ref 69), some (.int b), some (.int (Int32.ofNat k)), o7, o8, o9, o10] (r.toList ++ [.int (Int32.ofNat k)]) F' Q) := ⟨_, rfl⟩
        rw [← hQ16]
        refine (show Pv (ab_T L_X11_octet) N17 0 [some (.ref 69), some (.int 0)] [] (fp (fp (fp (fp (fp F 69 0 0) 69 3 (Int32.ofNat n)) 69 2 0) 69 4 0) 69 5 940) Q16 from ?_)
        refine Pv.aload rfl rfl ?_
        refine Pv.getR (v := .ref 70) rfl rfl (GW.at (a := 69) (k := 1) (b := 70) hG (by decide)) ?_
        refine Pv.iload rfl rfl ?_
        refine Pv.ald (z := F.1 70 0) rfl ((fp_ne (Or.inl (by decide))).trans ((fp_ne (Or.inl (by decide))).trans ((fp_ne (Or.inl (by decide))).trans ((fp_ne (Or.inl (by decide))).trans (fp_ne (Or.inl (by decide))))))) ?_
        refine Pv.lit rfl ?_
        refine Pv.bin (z := (F.1 70 0) &&& 255) rfl (rfl) ?_
        refine Pv.ret rfl ?_
        rw [hQ16]
        refine (show Pv (ab_T (L_X11_which Z_X11_taken Z_X11_isIn Z_X11_octet Z_X11_cell Z_X11_lesser)) N11 56 [some (.ref 69), some (.int b), some (.int (Int32.ofNat k)), o7, o8, o9, o10] [.int ((F.1 70 0) &&& 255), .int (Int32.ofNat k)] (fp (fp (fp (fp (fp F 69 0 0) 69 3 (Int32.ofNat n)) 69 2 0) 69 4 0) 69 5 940) Q from ?_)
        rw [show ((F.1 70 0) &&& 255) = Int32.ofNat s from es]
        refine Pv.callI (as := [.int (Int32.ofNat k), .int (Int32.ofNat s)]) (rest := []) (z := Int32.ofNat (2 * k + s)) rfl rfl rfl (g_cell (g := k) (s := s)) ?_
        refine Pv.istore (lo' := [some (.ref 69), some (.int b), some (.int (Int32.ofNat k)), some (.int (Int32.ofNat (2 * k + s))), o8, o9, o10]) rfl rfl ?_
        refine Pv.lit rfl ?_
        refine Pv.istore (lo' := [some (.ref 69), some (.int b), some (.int (Int32.ofNat k)), some (.int (Int32.ofNat (2 * k + s))), some (.int 1), o9, o10]) rfl rfl ?_
        refine Pv.lit rfl ?_
        refine Pv.istore (lo' := [some (.ref 69), some (.int b), some (.int (Int32.ofNat k)), some (.int (Int32.ofNat (2 * k + s))), some (.int 1), some (.int 2), o10]) rfl rfl ?_
        refine Pv.lp (ι := Nat × Int32 × (Option Value)) (lof := fun ⟨i, w, o18⟩ => [some (.ref 69), some (.int b), some (.int (Int32.ofNat k)), some (.int (Int32.ofNat (2 * k + s))), some (.int w), some (.int (Int32.ofNat i)), o18]) (Ff := fun ⟨i, w, o18⟩ => (fp (fp (fp (fp (fp F 69 0 0) 69 3 (Int32.ofNat n)) 69 2 0) 69 4 0) 69 5 940)) (P := fun ⟨i, w, o18⟩ => 2 ≤ i ∧ i ≤ n ∧ w = b2i (m_wh T (2 * k + s) (fun q => F.1 70 q &&& 255) (i - 2))) ?_ (2, 1, o10) (⟨Nat.le_refl _, by omega, rfl⟩)
        rintro N19 hN20 ⟨i, w, o18⟩ hi21 ih22
        refine (show Pv _ _ 66 [some (.ref 69), some (.int b), some (.int (Int32.ofNat k)), some (.int (Int32.ofNat (2 * k + s))), some (.int w), some (.int (Int32.ofNat i)), o18] [] (fp (fp (fp (fp (fp F 69 0 0) 69 3 (Int32.ofNat n)) 69 2 0) 69 4 0) 69 5 940) Q from ?_)
        obtain ⟨hi2, hin, hw⟩ := hi21
        refine Pv.iloadS rfl rfl ?_
        refine Pv.aload rfl rfl ?_
        refine Pv.getI (z := Int32.ofNat n) rfl rfl ((fp_ne (Or.inr (by decide))).trans ((fp_ne (Or.inr (by decide))).trans ((fp_ne (Or.inr (by decide))).trans (fp_eq)))) ?_
        refine Pv.icmp rfl (fun c23 => ?_) (fun c23 => ?_)
        · skip
          replace c23 := (i_le (a := n) (b := i) (by omega) (by omega)).mp (of_decide_eq_true c23)
          refine Pv.iload rfl rfl ?_
          refine Pv.iload rfl rfl ?_
          refine Pv.if0 rfl (fun c24 => ?_) (fun c24 => ?_)
          · skip
            replace c24 := of_decide_eq_true c24
            refine Pv.lit rfl ?_
            refine Pv.bin (z := b ||| 0) rfl (rfl) ?_
            refine Pv.istore (lo' := [some (.ref 69), some (.int (b ||| 0)), some (.int (Int32.ofNat k)), some (.int (Int32.ofNat (2 * k + s))), some (.int w), some (.int (Int32.ofNat i)), o18]) rfl rfl ?_
            refine Pv.iinc (y := Int32.ofNat (k + 1)) (lo' := [some (.ref 69), some (.int (b ||| 0)), some (.int (Int32.ofNat (k + 1))), some (.int (Int32.ofNat (2 * k + s))), some (.int w), some (.int (Int32.ofNat i)), o18]) rfl rfl (i_add k 1) rfl ?_
            refine Pv.goto rfl ?_
            exact (ih14 (k + 1, b ||| 0, (some (.int (Int32.ofNat (2 * k + s)))), (some (.int w)), (some (.int (Int32.ofNat i))), o18) (⟨by omega, by rw [m_bits_f (f := (fun g => m_wh T (2 * g + s) (fun q => F.1 70 q &&& 255) (n - 2))) (g := id) (k := k) (by show m_wh T (2 * k + s) (fun q => F.1 70 q &&& 255) (n - 2) = _; rw [show n - 2 = i - 2 by omega]; exact b2z.mp (hw.symm.trans c24)), ← hb]; exact i_or0 _⟩)).mono (by omega)
          · skip
            replace c24 := of_decide_eq_false c24
            refine Pv.lit rfl ?_
            refine Pv.iload rfl rfl ?_
            refine Pv.bin (z := 1 <<< ((Int32.ofNat k) &&& 31)) rfl (rfl) ?_
            refine Pv.goto rfl ?_
            refine Pv.bin (z := b ||| (1 <<< ((Int32.ofNat k) &&& 31))) rfl (rfl) ?_
            refine Pv.istore (lo' := [some (.ref 69), some (.int (b ||| (1 <<< ((Int32.ofNat k) &&& 31)))), some (.int (Int32.ofNat k)), some (.int (Int32.ofNat (2 * k + s))), some (.int w), some (.int (Int32.ofNat i)), o18]) rfl rfl ?_
            refine Pv.iinc (y := Int32.ofNat (k + 1)) (lo' := [some (.ref 69), some (.int (b ||| (1 <<< ((Int32.ofNat k) &&& 31)))), some (.int (Int32.ofNat (k + 1))), some (.int (Int32.ofNat (2 * k + s))), some (.int w), some (.int (Int32.ofNat i)), o18]) rfl rfl (i_add k 1) rfl ?_
            refine Pv.goto rfl ?_
            exact (ih14 (k + 1, b ||| (1 <<< ((Int32.ofNat k) &&& 31)), (some (.int (Int32.ofNat (2 * k + s)))), (some (.int w)), (some (.int (Int32.ofNat i))), o18) (⟨by omega, by rw [m_bits_t (f := (fun g => m_wh T (2 * g + s) (fun q => F.1 70 q &&& 255) (n - 2))) (g := id) (k := k) (by show m_wh T (2 * k + s) (fun q => F.1 70 q &&& 255) (n - 2) = _; rw [show n - 2 = i - 2 by omega]; exact b2n.mp (fun z => c24 (hw.trans z))), hb]; rfl⟩)).mono (by omega)
        · skip
          replace c23 := mt (i_le (a := n) (b := i) (by omega) (by omega)).mpr (of_decide_eq_false c23)
          refine Pv.lit rfl ?_
          refine Pv.aload rfl rfl ?_
          refine Pv.iload rfl rfl ?_
          refine Pv.lit rfl ?_
          refine Pv.bin (z := Int32.ofNat (i - 1)) rfl (i_subN (a := i) (b := 1) (by omega)) ?_
          refine Pv.callV (as := [.ref 69, .int (Int32.ofNat (i - 1))]) (rest := [.int 999]) (Q' := (fun r F' => Pv (ab_T (L_X11_which Z_X11_taken Z_X11_isIn Z_X11_octet Z_X11_cell Z_X11_lesser)) N19 86 [some (.ref 69), some (.int b), some (.int (Int32.ofNat k)), some (.int (Int32.ofNat (2 * k + s))), some (.int w), some (.int (Int32.ofNat i)), o18] (r.toList ++ [.int 999]) F' Q)) rfl rfl rfl ?_ (fun r F' h => h)
          refine Pm.of fun N26 => ?_
          obtain ⟨Q25, hQ25⟩ : ∃ Qx : Option Value → FW → Prop, Qx = (fun r F' => Pv (ab_T (L_X11_which Z_X11_taken Z_X11_isIn Z_X11_octet Z_X11_cell Z_X11_lesser)) N19 86 [some (.ref 69), some (.int b), some (.int (Int32.ofNat k)), some (.int (Int32.ofNat (2 * k + s))), some (.int w), some (.int (Int32.ofNat i)), o18] (r.toList ++ [.int 999]) F' Q) := ⟨_, rfl⟩
          rw [← hQ25]
          refine (show Pv (ab_T L_X11_octet) N26 0 [some (.ref 69), some (.int (Int32.ofNat (i - 1)))] [] (fp (fp (fp (fp (fp F 69 0 0) 69 3 (Int32.ofNat n)) 69 2 0) 69 4 0) 69 5 940) Q25 from ?_)
          refine Pv.aload rfl rfl ?_
          refine Pv.getR (v := .ref 70) rfl rfl (GW.at (a := 69) (k := 1) (b := 70) hG (by decide)) ?_
          refine Pv.iload rfl rfl ?_
          refine Pv.ald (z := F.1 70 (i - 1)) rfl (by rw [i_toNat (by omega)]; exact (fp_ne (Or.inl (by decide))).trans ((fp_ne (Or.inl (by decide))).trans ((fp_ne (Or.inl (by decide))).trans ((fp_ne (Or.inl (by decide))).trans (fp_ne (Or.inl (by decide))))))) ?_
          refine Pv.lit rfl ?_
          refine Pv.bin (z := (F.1 70 (i - 1)) &&& 255) rfl (rfl) ?_
          refine Pv.ret rfl ?_
          rw [hQ25]
          refine (show Pv (ab_T (L_X11_which Z_X11_taken Z_X11_isIn Z_X11_octet Z_X11_cell Z_X11_lesser)) N19 86 [some (.ref 69), some (.int b), some (.int (Int32.ofNat k)), some (.int (Int32.ofNat (2 * k + s))), some (.int w), some (.int (Int32.ofNat i)), o18] [.int ((F.1 70 (i - 1)) &&& 255), .int 999] (fp (fp (fp (fp (fp F 69 0 0) 69 3 (Int32.ofNat n)) 69 2 0) 69 4 0) 69 5 940) Q from ?_)
          refine Pv.aload rfl rfl ?_
          refine Pv.getR (v := .ref 71) rfl rfl (GW.at (a := 69) (k := 6) (b := 71) hG (by decide)) ?_
          refine Pv.lit rfl ?_
          refine Pv.iload rfl rfl ?_
          refine Pv.bin (z := Int32.ofNat (40 + (2 * k + s))) rfl (i_add 40 (2 * k + s)) ?_
          refine Pv.ald (z := t_a T (36 + (2 * k + s))) rfl (by rw [i_toNat (by omega)]; exact (fp_ne (Or.inl (by decide))).trans ((fp_ne (Or.inl (by decide))).trans ((fp_ne (Or.inl (by decide))).trans ((fp_ne (Or.inl (by decide))).trans ((fp_ne (Or.inl (by decide))).trans (hT.k _ (by omega))))))) ?_
          refine Pv.bin (z := ((F.1 70 (i - 1)) &&& 255) + (t_a T (36 + (2 * k + s)))) rfl (rfl) ?_
          refine Pv.callI (as := [.int 999, .int (((F.1 70 (i - 1)) &&& 255) + (t_a T (36 + (2 * k + s))))]) (rest := []) (z := m_less 999 (((F.1 70 (i - 1)) &&& 255) + (t_a T (36 + (2 * k + s))))) rfl rfl rfl (g_lesser (x := 999) (y := ((F.1 70 (i - 1)) &&& 255) + (t_a T (36 + (2 * k + s))))) ?_
          refine Pv.aload rfl rfl ?_
          refine Pv.getR (v := .ref 71) rfl rfl (GW.at (a := 69) (k := 6) (b := 71) hG (by decide)) ?_
          refine Pv.lit rfl ?_
          refine Pv.iload rfl rfl ?_
          refine Pv.bin (z := Int32.ofNat (28 + (2 * k + s))) rfl (i_add 28 (2 * k + s)) ?_
          refine Pv.ald (z := t_a T (24 + (2 * k + s))) rfl (by rw [i_toNat (by omega)]; exact (fp_ne (Or.inl (by decide))).trans ((fp_ne (Or.inl (by decide))).trans ((fp_ne (Or.inl (by decide))).trans ((fp_ne (Or.inl (by decide))).trans ((fp_ne (Or.inl (by decide))).trans (hT.e _ (by omega))))))) ?_
          refine Pv.bin (z := (m_less 999 (((F.1 70 (i - 1)) &&& 255) + (t_a T (36 + (2 * k + s))))) - (t_a T (24 + (2 * k + s)))) rfl (rfl) ?_
          rw [show ((m_less 999 (((F.1 70 (i - 1)) &&& 255) + (t_a T (36 + (2 * k + s))))) - (t_a T (24 + (2 * k + s)))) = m_left T (2 * k + s) ((fun q => F.1 70 q &&& 255) (i - 1)) from left_less T (2 * k + s) _]
          refine Pv.istore (lo' := [some (.ref 69), some (.int b), some (.int (Int32.ofNat k)), some (.int (Int32.ofNat (2 * k + s))), some (.int w), some (.int (Int32.ofNat i)), some (.int (m_left T (2 * k + s) ((fun q => F.1 70 q &&& 255) (i - 1))))]) rfl rfl ?_
          refine Pv.iload rfl rfl ?_
          refine Pv.if0 rfl (fun c27 => ?_) (fun c27 => ?_)
          · skip
            replace c27 := of_decide_eq_true c27
            refine Pv.lit rfl ?_
            refine Pv.istore (lo' := [some (.ref 69), some (.int b), some (.int (Int32.ofNat k)), some (.int (Int32.ofNat (2 * k + s))), some (.int 0), some (.int (Int32.ofNat i)), some (.int (m_left T (2 * k + s) ((fun q => F.1 70 q &&& 255) (i - 1))))]) rfl rfl ?_
            refine Pv.iinc (y := Int32.ofNat (i + 1)) (lo' := [some (.ref 69), some (.int b), some (.int (Int32.ofNat k)), some (.int (Int32.ofNat (2 * k + s))), some (.int 0), some (.int (Int32.ofNat (i + 1))), some (.int (m_left T (2 * k + s) ((fun q => F.1 70 q &&& 255) (i - 1))))]) rfl rfl (i_add i 1) rfl ?_
            refine Pv.goto rfl ?_
            exact ih22 (i + 1, 0, (some (.int (m_left T (2 * k + s) ((fun q => F.1 70 q &&& 255) (i - 1)))))) (⟨by omega, by omega, by rw [wh_s (by omega), b2z.mp (hw.symm.trans c27), Bool.false_and]; rfl⟩)
          · skip
            replace c27 := of_decide_eq_false c27
            refine Pv.aload rfl rfl ?_
            refine Pv.iload rfl rfl ?_
            refine Pv.callV (as := [.ref 69, .int (Int32.ofNat i)]) (rest := []) (Q' := (fun r F' => Pv (ab_T (L_X11_which Z_X11_taken Z_X11_isIn Z_X11_octet Z_X11_cell Z_X11_lesser)) N19 122 [some (.ref 69), some (.int b), some (.int (Int32.ofNat k)), some (.int (Int32.ofNat (2 * k + s))), some (.int w), some (.int (Int32.ofNat i)), some (.int (m_left T (2 * k + s) ((fun q => F.1 70 q &&& 255) (i - 1))))] (r.toList ++ []) F' Q)) rfl rfl rfl ?_ (fun r F' h => h)
            refine Pm.of fun N29 => ?_
            obtain ⟨Q28, hQ28⟩ : ∃ Qx : Option Value → FW → Prop, Qx = (fun r F' => Pv (ab_T (L_X11_which Z_X11_taken Z_X11_isIn Z_X11_octet Z_X11_cell Z_X11_lesser)) N19 122 [some (.ref 69), some (.int b), some (.int (Int32.ofNat k)), some (.int (Int32.ofNat (2 * k + s))), some (.int w), some (.int (Int32.ofNat i)), some (.int (m_left T (2 * k + s) ((fun q => F.1 70 q &&& 255) (i - 1))))] (r.toList ++ []) F' Q) := ⟨_, rfl⟩
            rw [← hQ28]
            refine (show Pv (ab_T L_X11_octet) N29 0 [some (.ref 69), some (.int (Int32.ofNat i))] [] (fp (fp (fp (fp (fp F 69 0 0) 69 3 (Int32.ofNat n)) 69 2 0) 69 4 0) 69 5 940) Q28 from ?_)
            refine Pv.aload rfl rfl ?_
            refine Pv.getR (v := .ref 70) rfl rfl (GW.at (a := 69) (k := 1) (b := 70) hG (by decide)) ?_
            refine Pv.iload rfl rfl ?_
            refine Pv.ald (z := F.1 70 i) rfl (by rw [i_toNat (by omega)]; exact (fp_ne (Or.inl (by decide))).trans ((fp_ne (Or.inl (by decide))).trans ((fp_ne (Or.inl (by decide))).trans ((fp_ne (Or.inl (by decide))).trans (fp_ne (Or.inl (by decide))))))) ?_
            refine Pv.lit rfl ?_
            refine Pv.bin (z := (F.1 70 i) &&& 255) rfl (rfl) ?_
            refine Pv.ret rfl ?_
            rw [hQ28]
            refine (show Pv (ab_T (L_X11_which Z_X11_taken Z_X11_isIn Z_X11_octet Z_X11_cell Z_X11_lesser)) N19 122 [some (.ref 69), some (.int b), some (.int (Int32.ofNat k)), some (.int (Int32.ofNat (2 * k + s))), some (.int w), some (.int (Int32.ofNat i)), some (.int (m_left T (2 * k + s) ((fun q => F.1 70 q &&& 255) (i - 1))))] [.int ((F.1 70 i) &&& 255)] (fp (fp (fp (fp (fp F 69 0 0) 69 3 (Int32.ofNat n)) 69 2 0) 69 4 0) 69 5 940) Q from ?_)
            refine Pv.iload rfl rfl ?_
            refine Pv.if0 rfl (fun c30 => ?_) (fun c30 => ?_)
            · skip
              replace c30 := of_decide_eq_true c30
              refine Pv.iload rfl rfl ?_
              refine Pv.icmp rfl (fun c31 => ?_) (fun c31 => ?_)
              · skip
                replace c31 : decide ((F.1 70 i) &&& 255 = m_left T (2 * k + s) ((fun q => F.1 70 q &&& 255) (i - 1))) = false := by simpa using c31
                replace c31 := of_decide_eq_false c31
                refine Pv.lit rfl ?_
                refine Pv.istore (lo' := [some (.ref 69), some (.int b), some (.int (Int32.ofNat k)), some (.int (Int32.ofNat (2 * k + s))), some (.int 0), some (.int (Int32.ofNat i)), some (.int (m_left T (2 * k + s) ((fun q => F.1 70 q &&& 255) (i - 1))))]) rfl rfl ?_
                refine Pv.iinc (y := Int32.ofNat (i + 1)) (lo' := [some (.ref 69), some (.int b), some (.int (Int32.ofNat k)), some (.int (Int32.ofNat (2 * k + s))), some (.int 0), some (.int (Int32.ofNat (i + 1))), some (.int (m_left T (2 * k + s) ((fun q => F.1 70 q &&& 255) (i - 1))))]) rfl rfl (i_add i 1) rfl ?_
                refine Pv.goto rfl ?_
                exact ih22 (i + 1, 0, (some (.int (m_left T (2 * k + s) ((fun q => F.1 70 q &&& 255) (i - 1)))))) (⟨by omega, by omega, by rw [wh_s (by omega), b2n.mp (fun z => c27 (hw.trans z)), mx_ge c30, Bool.true_and]; exact (congrArg b2i (decide_eq_false (fun z => c31 (Eq.symm z)))).symm⟩)
              · skip
                replace c31 : decide ((F.1 70 i) &&& 255 = m_left T (2 * k + s) ((fun q => F.1 70 q &&& 255) (i - 1))) = true := by simpa using c31
                replace c31 := of_decide_eq_true c31
                refine Pv.lit rfl ?_
                refine Pv.goto rfl ?_
                refine Pv.istore (lo' := [some (.ref 69), some (.int b), some (.int (Int32.ofNat k)), some (.int (Int32.ofNat (2 * k + s))), some (.int 1), some (.int (Int32.ofNat i)), some (.int (m_left T (2 * k + s) ((fun q => F.1 70 q &&& 255) (i - 1))))]) rfl rfl ?_
                refine Pv.iinc (y := Int32.ofNat (i + 1)) (lo' := [some (.ref 69), some (.int b), some (.int (Int32.ofNat k)), some (.int (Int32.ofNat (2 * k + s))), some (.int 1), some (.int (Int32.ofNat (i + 1))), some (.int (m_left T (2 * k + s) ((fun q => F.1 70 q &&& 255) (i - 1))))]) rfl rfl (i_add i 1) rfl ?_
                refine Pv.goto rfl ?_
                exact ih22 (i + 1, 1, (some (.int (m_left T (2 * k + s) ((fun q => F.1 70 q &&& 255) (i - 1)))))) (⟨by omega, by omega, by rw [wh_s (by omega), b2n.mp (fun z => c27 (hw.trans z)), mx_ge c30, Bool.true_and]; exact (congrArg b2i (decide_eq_true (Eq.symm c31))).symm⟩)
            · skip
              replace c30 := of_decide_eq_false c30
              refine Pv.lit rfl ?_
              refine Pv.goto rfl ?_
              refine Pv.icmp rfl (fun c32 => ?_) (fun c32 => ?_)
              · skip
                replace c32 : decide ((F.1 70 i) &&& 255 = 0) = false := by simpa using c32
                replace c32 := of_decide_eq_false c32
                refine Pv.lit rfl ?_
                refine Pv.istore (lo' := [some (.ref 69), some (.int b), some (.int (Int32.ofNat k)), some (.int (Int32.ofNat (2 * k + s))), some (.int 0), some (.int (Int32.ofNat i)), some (.int (m_left T (2 * k + s) ((fun q => F.1 70 q &&& 255) (i - 1))))]) rfl rfl ?_
                refine Pv.iinc (y := Int32.ofNat (i + 1)) (lo' := [some (.ref 69), some (.int b), some (.int (Int32.ofNat k)), some (.int (Int32.ofNat (2 * k + s))), some (.int 0), some (.int (Int32.ofNat (i + 1))), some (.int (m_left T (2 * k + s) ((fun q => F.1 70 q &&& 255) (i - 1))))]) rfl rfl (i_add i 1) rfl ?_
                refine Pv.goto rfl ?_
                exact ih22 (i + 1, 0, (some (.int (m_left T (2 * k + s) ((fun q => F.1 70 q &&& 255) (i - 1)))))) (⟨by omega, by omega, by rw [wh_s (by omega), b2n.mp (fun z => c27 (hw.trans z)), mx_lt c30, Bool.true_and]; exact (congrArg b2i (decide_eq_false (fun z => c32 (Eq.symm z)))).symm⟩)
              · skip
                replace c32 : decide ((F.1 70 i) &&& 255 = 0) = true := by simpa using c32
                replace c32 := of_decide_eq_true c32
                refine Pv.lit rfl ?_
                refine Pv.goto rfl ?_
                refine Pv.istore (lo' := [some (.ref 69), some (.int b), some (.int (Int32.ofNat k)), some (.int (Int32.ofNat (2 * k + s))), some (.int 1), some (.int (Int32.ofNat i)), some (.int (m_left T (2 * k + s) ((fun q => F.1 70 q &&& 255) (i - 1))))]) rfl rfl ?_
                refine Pv.iinc (y := Int32.ofNat (i + 1)) (lo' := [some (.ref 69), some (.int b), some (.int (Int32.ofNat k)), some (.int (Int32.ofNat (2 * k + s))), some (.int 1), some (.int (Int32.ofNat (i + 1))), some (.int (m_left T (2 * k + s) ((fun q => F.1 70 q &&& 255) (i - 1))))]) rfl rfl (i_add i 1) rfl ?_
                refine Pv.goto rfl ?_
                exact ih22 (i + 1, 1, (some (.int (m_left T (2 * k + s) ((fun q => F.1 70 q &&& 255) (i - 1)))))) (⟨by omega, by omega, by rw [wh_s (by omega), b2n.mp (fun z => c27 (hw.trans z)), mx_lt c30, Bool.true_and]; exact (congrArg b2i (decide_eq_true (Eq.symm c32))).symm⟩)
    · skip
      replace c6 := of_decide_eq_false c6
      refine Pv.lit rfl ?_
      exact Pv.ret rfl (by rw [hQ]; exact ⟨by unfold a_which; rw [if_pos (ndr_y (by omega) ((ndr_in (a := 3) (b := 31) (by omega) (by omega)).symm.trans c3)), oct_n c6], rfl⟩)
set_option maxRecDepth 100000 in
set_option maxHeartbeats 4000000 in
theorem o_looksLike {F : FW} {p r : Nat} (hp : O7 F p) (hr : O7 F r) : Pm Z_X6_looksLike [.ref p, .ref r] F (fun r F' => (∃ z, r = some (.int z)) ∧ F' = F) := by
  refine Pm.of fun N => ?_
  obtain ⟨Q, hQ⟩ : ∃ Q : Option Value → FW → Prop, Q = (fun r F' => (∃ z, r = some (.int z)) ∧ F' = F) := ⟨_, rfl⟩
  rw [← hQ]
  refine (show Pv (ab_T L_X6_looksLike) N 0 [some (.ref p), some (.ref r), none] [] F Q from ?_)
  refine Pv.lit rfl ?_
  refine Pv.istore (lo' := [some (.ref p), some (.ref r), some (.int 0)]) rfl rfl ?_
  refine Pv.lp (ι := Nat) (lof := fun k => [some (.ref p), some (.ref r), some (.int (Int32.ofNat k))]) (Ff := fun k => F) (P := fun k => k ≤ 12) ?_ 0 (Nat.zero_le _)
  rintro N1 hN2 k hi3 ih4
  refine (show Pv _ _ 2 [some (.ref p), some (.ref r), some (.int (Int32.ofNat k))] [] F Q from ?_)
  have hk := hi3
  refine Pv.iloadS rfl rfl ?_
  refine Pv.lit rfl ?_
  refine Pv.icmp rfl (fun c5 => ?_) (fun c5 => ?_)
  · skip
    replace c5 := (i_le (a := 12) (b := k) (by omega) (by omega)).mp (of_decide_eq_true c5)
    refine Pv.lit rfl ?_
    refine Pv.istore (lo' := [some (.ref p), some (.ref r), some (.int 0)]) rfl rfl ?_
    refine Pv.lp (ι := Nat) (lof := fun k => [some (.ref p), some (.ref r), some (.int (Int32.ofNat k))]) (Ff := fun k => F) (P := fun k => k ≤ 8) ?_ 0 (Nat.zero_le _)
    rintro N6 hN7 k hi8 ih9
    refine (show Pv _ _ 33 [some (.ref p), some (.ref r), some (.int (Int32.ofNat k))] [] F Q from ?_)
    have hk := hi8
    refine Pv.iloadS rfl rfl ?_
    refine Pv.lit rfl ?_
    refine Pv.icmp rfl (fun c10 => ?_) (fun c10 => ?_)
    · skip
      replace c10 := (i_le (a := 8) (b := k) (by omega) (by omega)).mp (of_decide_eq_true c10)
      refine Pv.lit rfl ?_
      exact Pv.zret rfl (by rw [hQ]; exact ⟨⟨_, rfl⟩, rfl⟩)
    · skip
      replace c10 := mt (i_le (a := 8) (b := k) (by omega) (by omega)).mpr (of_decide_eq_false c10)
      refine Pv.aload rfl rfl ?_
      refine Pv.getR (v := .ref (p + 5)) rfl rfl ((hp 4 (by decide))) ?_
      refine Pv.iload rfl rfl ?_
      refine Pv.ald (z := F.1 (p + 5) k) rfl (by rw [i_toNat (by omega)]) ?_
      refine Pv.aload rfl rfl ?_
      refine Pv.getR (v := .ref (r + 5)) rfl rfl ((hr 4 (by decide))) ?_
      refine Pv.iload rfl rfl ?_
      refine Pv.ald (z := F.1 (r + 5) k) rfl (by rw [i_toNat (by omega)]) ?_
      refine Pv.icmp rfl (fun c11 => ?_) (fun c11 => ?_)
      · skip
        replace c11 := of_decide_eq_true c11
        refine Pv.iinc (y := Int32.ofNat (k + 1)) (lo' := [some (.ref p), some (.ref r), some (.int (Int32.ofNat (k + 1)))]) rfl rfl (i_add k 1) rfl ?_
        refine Pv.goto rfl ?_
        exact ih9 (k + 1) (by omega)
      · skip
        replace c11 := of_decide_eq_false c11
        refine Pv.lit rfl ?_
        exact Pv.zret rfl (by rw [hQ]; exact ⟨⟨_, rfl⟩, rfl⟩)
  · skip
    replace c5 := mt (i_le (a := 12) (b := k) (by omega) (by omega)).mpr (of_decide_eq_false c5)
    refine Pv.aload rfl rfl ?_
    refine Pv.getR (v := .ref (p + 1)) rfl rfl ((hp 0 (by decide))) ?_
    refine Pv.iload rfl rfl ?_
    refine Pv.ald (z := F.1 (p + 1) k) rfl (by rw [i_toNat (by omega)]) ?_
    refine Pv.aload rfl rfl ?_
    refine Pv.getR (v := .ref (r + 1)) rfl rfl ((hr 0 (by decide))) ?_
    refine Pv.iload rfl rfl ?_
    refine Pv.ald (z := F.1 (r + 1) k) rfl (by rw [i_toNat (by omega)]) ?_
    refine Pv.icmp rfl (fun c12 => ?_) (fun c12 => ?_)
    · skip
      replace c12 := of_decide_eq_true c12
      refine Pv.iinc (y := Int32.ofNat (k + 1)) (lo' := [some (.ref p), some (.ref r), some (.int (Int32.ofNat (k + 1)))]) rfl rfl (i_add k 1) rfl ?_
      refine Pv.goto rfl ?_
      exact ih4 (k + 1) (by omega)
    · skip
      replace c12 := of_decide_eq_false c12
      refine Pv.lit rfl ?_
      exact Pv.zret rfl (by rw [hQ]; exact ⟨⟨_, rfl⟩, rfl⟩)
set_option maxRecDepth 100000 in
set_option maxHeartbeats 4000000 in
theorem o_settles {F : FW} {t : Nat} {T : St} {S : Sh} (hG : GW F) (ht : F.2.1 0 13 = .ref t) (hT : TR F t T) (hS : SHR F 12 (t_m T) S) (j0 : t = 45 ∨ t = 53) : Pm Z_X10_settles [.ref 0] F (fun r F' => (∃ z, r = some (.int z)) ∧ CDR F F') := by
  refine Pm.of fun N => ?_
  obtain ⟨Q, hQ⟩ : ∃ Q : Option Value → FW → Prop, Q = (fun r F' => (∃ z, r = some (.int z)) ∧ CDR F F') := ⟨_, rfl⟩
  rw [← hQ]
  have b3 := hT.mb
  have b4 := hT.nb
  have b5 := hT.gb
  have b6 := m_from_lt S
  have b7 := hS.db
  refine (show Pv (ab_T (L_X10_settles Z_X6_copyFrom Z_X1_passDays Z_X6_looksLike)) N 0 [some (.ref 0), none] [] F Q from ?_)
  refine Pv.aload rfl rfl ?_
  refine Pv.getR (v := .ref 28) rfl rfl (GW.at (a := 0) (k := 6) (b := 28) hG (by decide)) ?_
  refine Pv.aload rfl rfl ?_
  refine Pv.getR (v := .ref 12) rfl rfl (GW.at (a := 0) (k := 4) (b := 12) hG (by decide)) ?_
  refine Pv.callV (as := [.ref 28, .ref 12]) (rest := []) rfl rfl rfl (f_shCopy (GW.o28 hG) hS b3 (by omega)) ?_
  rintro _ G1 ⟨rfl, x2, sr4⟩
  have hx3 := FX.tr (P := fun q => (7 ≤ q ∧ q ≤ 9) ∨ (20 ≤ q ∧ q ≤ 35) ∨ q = 40 ∨ q = 43) FX.rf (x2.wd (fun q (c : 28 ≤ q ∧ q ≤ 28 + 7) => (show (7 ≤ q ∧ q ≤ 9) ∨ (20 ≤ q ∧ q ≤ 35) ∨ q = 40 ∨ q = 43 by omega)))
  have hx5 := hT.fx (P := fun q => 28 ≤ q ∧ q ≤ 28 + 7) x2 (fun q h1 h2 (c : 28 ≤ q ∧ q ≤ 28 + 7) => by omega)
  have hx6 := hS.fx (P := fun q => 28 ≤ q ∧ q ≤ 28 + 7) x2 (fun q h1 h2 (c : 28 ≤ q ∧ q ≤ 28 + 7) => by omega)
  have hx7 := hG.fx (P := fun q => 28 ≤ q ∧ q ≤ 28 + 7) x2
  have hr8 : G1.2.1 0 13 = .ref t := by rw [x2.2.2.1]; exact ht
  refine (show Pv _ _ 11 [some (.ref 0), none] [] G1 Q from ?_)
  refine Pv.aload rfl rfl ?_
  refine Pv.getR (v := .ref 20) rfl rfl (GW.at (a := 0) (k := 5) (b := 20) hx7 (by decide)) ?_
  refine Pv.aload rfl rfl ?_
  refine Pv.getR (v := .ref 12) rfl rfl (GW.at (a := 0) (k := 4) (b := 12) hx7 (by decide)) ?_
  refine Pv.callV (as := [.ref 20, .ref 12]) (rest := []) rfl rfl rfl (f_shCopy (GW.o20 hx7) hx6 b3 (by omega)) ?_
  rintro _ G9 ⟨rfl, x10, sr12⟩
  have hx11 := FX.tr (P := fun q => (7 ≤ q ∧ q ≤ 9) ∨ (20 ≤ q ∧ q ≤ 35) ∨ q = 40 ∨ q = 43) hx3 (x10.wd (fun q (c : 20 ≤ q ∧ q ≤ 20 + 7) => (show (7 ≤ q ∧ q ≤ 9) ∨ (20 ≤ q ∧ q ≤ 35) ∨ q = 40 ∨ q = 43 by omega)))
  have hx13 := hx5.fx (P := fun q => 20 ≤ q ∧ q ≤ 20 + 7) x10 (fun q h1 h2 (c : 20 ≤ q ∧ q ≤ 20 + 7) => by omega)
  have hx14 := hx6.fx (P := fun q => 20 ≤ q ∧ q ≤ 20 + 7) x10 (fun q h1 h2 (c : 20 ≤ q ∧ q ≤ 20 + 7) => by omega)
  have hx15 := sr4.fx (P := fun q => 20 ≤ q ∧ q ≤ 20 + 7) x10 (fun q h1 h2 (c : 20 ≤ q ∧ q ≤ 20 + 7) => by omega)
  have hx16 := hx7.fx (P := fun q => 20 ≤ q ∧ q ≤ 20 + 7) x10
  have hr17 : G9.2.1 0 13 = .ref t := by rw [x10.2.2.1]; exact hr8
  refine (show Pv _ _ 22 [some (.ref 0), none] [] G9 Q from ?_)
  refine Pv.aload rfl rfl ?_
  refine Pv.getR (v := .ref 7) rfl rfl (GW.at (a := 0) (k := 2) (b := 7) hx16 (by decide)) ?_
  refine Pv.aload rfl rfl ?_
  refine Pv.getR (v := .ref t) rfl rfl (hr17) ?_
  refine Pv.aload rfl rfl ?_
  refine Pv.getR (v := .ref 20) rfl rfl (GW.at (a := 0) (k := 5) (b := 20) hx16 (by decide)) ?_
  refine Pv.lit rfl ?_
  refine Pv.callV (as := [.ref 7, .ref t, .ref 20, .int 2]) (rest := []) rfl rfl rfl (f_passDays (n := 2) hx13 sr12 hx16 (by omega) (by omega) (by omega) (by omega)) ?_
  rintro _ G18 ⟨rfl, x19, sr21, pl22⟩
  have hx20 := FX.tr (P := fun q => (7 ≤ q ∧ q ≤ 9) ∨ (20 ≤ q ∧ q ≤ 35) ∨ q = 40 ∨ q = 43) hx11 (x19.wd (fun q (c : (20 ≤ q ∧ q ≤ 20 + 7) ∨ (7 ≤ q ∧ q ≤ 9)) => (show (7 ≤ q ∧ q ≤ 9) ∨ (20 ≤ q ∧ q ≤ 35) ∨ q = 40 ∨ q = 43 by omega)))
  have hx23 := hx13.fx (P := fun q => (20 ≤ q ∧ q ≤ 20 + 7) ∨ (7 ≤ q ∧ q ≤ 9)) x19 (fun q h1 h2 (c : (20 ≤ q ∧ q ≤ 20 + 7) ∨ (7 ≤ q ∧ q ≤ 9)) => by omega)
  have hx24 := hx14.fx (P := fun q => (20 ≤ q ∧ q ≤ 20 + 7) ∨ (7 ≤ q ∧ q ≤ 9)) x19 (fun q h1 h2 (c : (20 ≤ q ∧ q ≤ 20 + 7) ∨ (7 ≤ q ∧ q ≤ 9)) => by omega)
  have hx25 := hx15.fx (P := fun q => (20 ≤ q ∧ q ≤ 20 + 7) ∨ (7 ≤ q ∧ q ≤ 9)) x19 (fun q h1 h2 (c : (20 ≤ q ∧ q ≤ 20 + 7) ∨ (7 ≤ q ∧ q ≤ 9)) => by omega)
  have hx26 := hx16.fx (P := fun q => (20 ≤ q ∧ q ≤ 20 + 7) ∨ (7 ≤ q ∧ q ≤ 9)) x19
  have hr27 : G18.2.1 0 13 = .ref t := by rw [x19.2.2.1]; exact hr17
  refine (show Pv _ _ 38 [some (.ref 0), none] [.int (Int32.ofNat (h_d (m_days T S 2)) - Int32.ofNat (h_d S))] G18 Q from ?_)
  refine Pv.lit rfl ?_
  refine Pv.icmp rfl (fun c28 => ?_) (fun c28 => ?_)
  · skip
    replace c28 := of_decide_eq_true c28
    refine Pv.lit rfl ?_
    refine Pv.istore (lo' := [some (.ref 0), some (.int 0)]) rfl rfl ?_
    refine Pv.lp (ι := Nat × FW) (lof := fun ⟨k, G⟩ => [some (.ref 0), some (.int (Int32.ofNat k))]) (Ff := fun ⟨k, G⟩ => G) (P := fun ⟨k, G⟩ => FX (fun q => (7 ≤ q ∧ q ≤ 9) ∨ (20 ≤ q ∧ q ≤ 35) ∨ q = 40 ∨ q = 43) F G ∧ (k ≤ 200) ∧ (SHR G 20 (t_m T) (m_days T S (k + 2))) ∧ (SHR G 28 (t_m T) (m_days T S k))) ?_ (0, G18) (⟨hx20, Nat.zero_le _, sr21, hx25⟩)
    rintro N29 hN30 ⟨k, G⟩ hi31 ih32
    refine (show Pv _ _ 46 [some (.ref 0), some (.int (Int32.ofNat k))] [] G Q from ?_)
    obtain ⟨hxG, hk, hA, hB⟩ := hi31
    have hx33 := hT.fx (P := fun q => (7 ≤ q ∧ q ≤ 9) ∨ (20 ≤ q ∧ q ≤ 35) ∨ q = 40 ∨ q = 43) hxG (fun q h1 h2 (c : (7 ≤ q ∧ q ≤ 9) ∨ (20 ≤ q ∧ q ≤ 35) ∨ q = 40 ∨ q = 43) => by omega)
    have hx34 := hS.fx (P := fun q => (7 ≤ q ∧ q ≤ 9) ∨ (20 ≤ q ∧ q ≤ 35) ∨ q = 40 ∨ q = 43) hxG (fun q h1 h2 (c : (7 ≤ q ∧ q ≤ 9) ∨ (20 ≤ q ∧ q ≤ 35) ∨ q = 40 ∨ q = 43) => by omega)
    have hx35 := hG.fx (P := fun q => (7 ≤ q ∧ q ≤ 9) ∨ (20 ≤ q ∧ q ≤ 35) ∨ q = 40 ∨ q = 43) hxG
    have hx36 : G.2.1 0 13 = .ref t := by rw [hxG.2.2.1]; exact ht
    have bD := hA.db
    have bE := hB.db
    refine Pv.iloadS rfl rfl ?_
    refine Pv.lit rfl ?_
    refine Pv.icmp rfl (fun c37 => ?_) (fun c37 => ?_)
    · skip
      replace c37 := (i_le (a := 200) (b := k) (by omega) (by omega)).mp (of_decide_eq_true c37)
      refine Pv.lit rfl ?_
      exact Pv.ret rfl (by rw [hQ]; exact ⟨⟨_, rfl⟩, hxG⟩)
    · skip
      replace c37 := mt (i_le (a := 200) (b := k) (by omega) (by omega)).mpr (of_decide_eq_false c37)
      refine Pv.aload rfl rfl ?_
      refine Pv.getR (v := .ref 20) rfl rfl (GW.at (a := 0) (k := 5) (b := 20) hx35 (by decide)) ?_
      refine Pv.aload rfl rfl ?_
      refine Pv.getR (v := .ref 28) rfl rfl (GW.at (a := 0) (k := 6) (b := 28) hx35 (by decide)) ?_
      refine Pv.callV (as := [.ref 20, .ref 28]) (rest := []) rfl rfl rfl (o_looksLike hA.o hB.o) ?_
      rintro _ Fe ⟨⟨z38, rfl⟩, ee⟩
      obtain rfl := ee.symm
      refine (show Pv _ _ 64 [some (.ref 0), some (.int (Int32.ofNat k))] [.int z38] G Q from ?_)
      refine Pv.if0 rfl (fun c39 => ?_) (fun c39 => ?_)
      · skip
        replace c39 := of_decide_eq_true c39
        refine Pv.aload rfl rfl ?_
        refine Pv.getR (v := .ref 20) rfl rfl (GW.at (a := 0) (k := 5) (b := 20) hx35 (by decide)) ?_
        refine Pv.getI (z := Int32.ofNat (h_d (m_days T S (k + 2)))) rfl rfl (hA.d) ?_
        refine Pv.lit rfl ?_
        refine Pv.icmp rfl (fun c40 => ?_) (fun c40 => ?_)
        · skip
          replace c40 := (i_lt (a := h_d (m_days T S (k + 2))) (b := 400) (by omega) (by omega)).mp (of_decide_eq_true c40)
          refine Pv.aload rfl rfl ?_
          refine Pv.getR (v := .ref 7) rfl rfl (GW.at (a := 0) (k := 2) (b := 7) hx35 (by decide)) ?_
          refine Pv.aload rfl rfl ?_
          refine Pv.getR (v := .ref t) rfl rfl (hx36) ?_
          refine Pv.aload rfl rfl ?_
          refine Pv.getR (v := .ref 20) rfl rfl (GW.at (a := 0) (k := 5) (b := 20) hx35 (by decide)) ?_
          refine Pv.lit rfl ?_
          refine Pv.callV (as := [.ref 7, .ref t, .ref 20, .int 1]) (rest := []) rfl rfl rfl (f_passDays (n := 1) hx33 hA hx35 (by omega) (by omega) (by omega) (by omega)) ?_
          rintro _ G41 ⟨rfl, x42, sr44, pl45⟩
          have hx43 := FX.tr (P := fun q => (7 ≤ q ∧ q ≤ 9) ∨ (20 ≤ q ∧ q ≤ 35) ∨ q = 40 ∨ q = 43) hxG (x42.wd (fun q (c : (20 ≤ q ∧ q ≤ 20 + 7) ∨ (7 ≤ q ∧ q ≤ 9)) => (show (7 ≤ q ∧ q ≤ 9) ∨ (20 ≤ q ∧ q ≤ 35) ∨ q = 40 ∨ q = 43 by omega)))
          have hx46 := hx33.fx (P := fun q => (20 ≤ q ∧ q ≤ 20 + 7) ∨ (7 ≤ q ∧ q ≤ 9)) x42 (fun q h1 h2 (c : (20 ≤ q ∧ q ≤ 20 + 7) ∨ (7 ≤ q ∧ q ≤ 9)) => by omega)
          have hx47 := hx34.fx (P := fun q => (20 ≤ q ∧ q ≤ 20 + 7) ∨ (7 ≤ q ∧ q ≤ 9)) x42 (fun q h1 h2 (c : (20 ≤ q ∧ q ≤ 20 + 7) ∨ (7 ≤ q ∧ q ≤ 9)) => by omega)
          have hx48 := hB.fx (P := fun q => (20 ≤ q ∧ q ≤ 20 + 7) ∨ (7 ≤ q ∧ q ≤ 9)) x42 (fun q h1 h2 (c : (20 ≤ q ∧ q ≤ 20 + 7) ∨ (7 ≤ q ∧ q ≤ 9)) => by omega)
          have hx49 := hx35.fx (P := fun q => (20 ≤ q ∧ q ≤ 20 + 7) ∨ (7 ≤ q ∧ q ≤ 9)) x42
          have hr50 : G41.2.1 0 13 = .ref t := by rw [x42.2.2.1]; exact hx36
          refine (show Pv _ _ 106 [some (.ref 0), some (.int (Int32.ofNat k))] [.int (Int32.ofNat (h_d (m_days T (m_days T S (k + 2)) 1)) - Int32.ofNat (h_d (m_days T S (k + 2))))] G41 Q from ?_)
          refine Pv.pop rfl ?_
          refine Pv.aload rfl rfl ?_
          refine Pv.getR (v := .ref 7) rfl rfl (GW.at (a := 0) (k := 2) (b := 7) hx49 (by decide)) ?_
          refine Pv.aload rfl rfl ?_
          refine Pv.getR (v := .ref t) rfl rfl (hr50) ?_
          refine Pv.aload rfl rfl ?_
          refine Pv.getR (v := .ref 28) rfl rfl (GW.at (a := 0) (k := 6) (b := 28) hx49 (by decide)) ?_
          refine Pv.lit rfl ?_
          refine Pv.callV (as := [.ref 7, .ref t, .ref 28, .int 1]) (rest := []) rfl rfl rfl (f_passDays (n := 1) hx46 hx48 hx49 (by omega) (by omega) (by omega) (by omega)) ?_
          rintro _ G51 ⟨rfl, x52, sr54, pl55⟩
          have hx53 := FX.tr (P := fun q => (7 ≤ q ∧ q ≤ 9) ∨ (20 ≤ q ∧ q ≤ 35) ∨ q = 40 ∨ q = 43) hx43 (x52.wd (fun q (c : (28 ≤ q ∧ q ≤ 28 + 7) ∨ (7 ≤ q ∧ q ≤ 9)) => (show (7 ≤ q ∧ q ≤ 9) ∨ (20 ≤ q ∧ q ≤ 35) ∨ q = 40 ∨ q = 43 by omega)))
          have hx56 := hx46.fx (P := fun q => (28 ≤ q ∧ q ≤ 28 + 7) ∨ (7 ≤ q ∧ q ≤ 9)) x52 (fun q h1 h2 (c : (28 ≤ q ∧ q ≤ 28 + 7) ∨ (7 ≤ q ∧ q ≤ 9)) => by omega)
          have hx57 := hx47.fx (P := fun q => (28 ≤ q ∧ q ≤ 28 + 7) ∨ (7 ≤ q ∧ q ≤ 9)) x52 (fun q h1 h2 (c : (28 ≤ q ∧ q ≤ 28 + 7) ∨ (7 ≤ q ∧ q ≤ 9)) => by omega)
          have hx58 := sr44.fx (P := fun q => (28 ≤ q ∧ q ≤ 28 + 7) ∨ (7 ≤ q ∧ q ≤ 9)) x52 (fun q h1 h2 (c : (28 ≤ q ∧ q ≤ 28 + 7) ∨ (7 ≤ q ∧ q ≤ 9)) => by omega)
          have hx59 := hx49.fx (P := fun q => (28 ≤ q ∧ q ≤ 28 + 7) ∨ (7 ≤ q ∧ q ≤ 9)) x52
          have hr60 : G51.2.1 0 13 = .ref t := by rw [x52.2.2.1]; exact hr50
          refine (show Pv _ _ 123 [some (.ref 0), some (.int (Int32.ofNat k))] [.int (Int32.ofNat (h_d (m_days T (m_days T S k) 1)) - Int32.ofNat (h_d (m_days T S k)))] G51 Q from ?_)
          refine Pv.pop rfl ?_
          refine Pv.iinc (y := Int32.ofNat (k + 1)) (lo' := [some (.ref 0), some (.int (Int32.ofNat (k + 1)))]) rfl rfl (i_add k 1) rfl ?_
          refine Pv.goto rfl ?_
          exact ih32 (k + 1, G51) (⟨hx53, by omega, (show SHR G51 20 (t_m T) (m_days T S (k + 1 + 2)) from hx58), (show SHR G51 28 (t_m T) (m_days T S (k + 1)) from sr54)⟩)
        · skip
          replace c40 := mt (i_lt (a := h_d (m_days T S (k + 2))) (b := 400) (by omega) (by omega)).mpr (of_decide_eq_false c40)
          refine Pv.lit rfl ?_
          exact Pv.ret rfl (by rw [hQ]; exact ⟨⟨_, rfl⟩, hxG⟩)
      · skip
        replace c39 := of_decide_eq_false c39
        refine Pv.aload rfl rfl ?_
        refine Pv.getR (v := .ref 28) rfl rfl (GW.at (a := 0) (k := 6) (b := 28) hx35 (by decide)) ?_
        refine Pv.getI (z := Int32.ofNat (h_d (m_days T S k))) rfl rfl (hB.d) ?_
        exact Pv.ret rfl (by rw [hQ]; exact ⟨⟨_, rfl⟩, hxG⟩)
  · skip
    replace c28 := of_decide_eq_false c28
    refine Pv.lit rfl ?_
    exact Pv.ret rfl (by rw [hQ]; exact ⟨⟨_, rfl⟩, hx20⟩)
set_option maxRecDepth 100000 in
set_option maxHeartbeats 4000000 in
theorem g_lays {F : FW} {k : Nat} (hG : GW F) (hk3 : k < 3) : Pm Z_X11_lays [.ref 69, .int (Int32.ofNat k)] F (fun r F' => r = none ∧ FX (fun q => q = 79) F F') := by
  refine Pm.of fun N => ?_
  obtain ⟨Q, hQ⟩ : ∃ Q : Option Value → FW → Prop, Q = (fun r F' => r = none ∧ FX (fun q => q = 79) F F') := ⟨_, rfl⟩
  rw [← hQ]
  refine (show Pv (ab_T L_X11_lays) N 0 [some (.ref 69), some (.int (Int32.ofNat k)), none] [] F Q from ?_)
  refine Pv.lit rfl ?_
  refine Pv.istore (lo' := [some (.ref 69), some (.int (Int32.ofNat k)), some (.int 0)]) rfl rfl ?_
  refine Pv.lp (ι := Nat × FW) (lof := fun ⟨i, G⟩ => [some (.ref 69), some (.int (Int32.ofNat k)), some (.int (Int32.ofNat i))]) (Ff := fun ⟨i, G⟩ => G) (P := fun ⟨i, G⟩ => (i ≤ 12) ∧ (FX (fun q => q = 79) F G)) ?_ (0, F) (⟨Nat.zero_le _, FX.rf⟩)
  rintro N1 hN2 ⟨i, G⟩ hi3 ih4
  refine (show Pv _ _ 2 [some (.ref 69), some (.int (Int32.ofNat k)), some (.int (Int32.ofNat i))] [] G Q from ?_)
  obtain ⟨hi, hxG⟩ := hi3
  have hx5 := hG.fx (P := fun q => q = 79) hxG
  refine Pv.iloadS rfl rfl ?_
  refine Pv.lit rfl ?_
  refine Pv.icmp rfl (fun c6 => ?_) (fun c6 => ?_)
  · skip
    replace c6 := (i_le (a := 12) (b := i) (by omega) (by omega)).mp (of_decide_eq_true c6)
    refine Pv.lit rfl ?_
    refine Pv.istore (lo' := [some (.ref 69), some (.int (Int32.ofNat k)), some (.int 0)]) rfl rfl ?_
    refine Pv.lp (ι := Nat × FW) (lof := fun ⟨i, G2⟩ => [some (.ref 69), some (.int (Int32.ofNat k)), some (.int (Int32.ofNat i))]) (Ff := fun ⟨i, G2⟩ => G2) (P := fun ⟨i, G2⟩ => (i ≤ 8) ∧ (FX (fun q => q = 79) F G2)) ?_ (0, G) (⟨Nat.zero_le _, hxG⟩)
    rintro N7 hN8 ⟨i, G2⟩ hi9 ih10
    refine (show Pv _ _ 36 [some (.ref 69), some (.int (Int32.ofNat k)), some (.int (Int32.ofNat i))] [] G2 Q from ?_)
    obtain ⟨hi, hxG2⟩ := hi9
    have hx11 := hG.fx (P := fun q => q = 79) hxG2
    refine Pv.iloadS rfl rfl ?_
    refine Pv.lit rfl ?_
    refine Pv.icmp rfl (fun c12 => ?_) (fun c12 => ?_)
    · skip
      replace c12 := (i_le (a := 8) (b := i) (by omega) (by omega)).mp (of_decide_eq_true c12)
      exact Pv.vret rfl (by rw [hQ]; exact ⟨rfl, hxG2⟩)
    · skip
      replace c12 := mt (i_le (a := 8) (b := i) (by omega) (by omega)).mpr (of_decide_eq_false c12)
      refine Pv.aload rfl rfl ?_
      refine Pv.getR (v := .ref 79) rfl rfl (GW.at (a := 69) (k := 26) (b := 79) hx11 (by decide)) ?_
      refine Pv.lit rfl ?_
      refine Pv.iload rfl rfl ?_
      refine Pv.bin (z := Int32.ofNat (20 * k)) rfl (i_mul 20 k) ?_
      refine Pv.lit rfl ?_
      refine Pv.bin (z := Int32.ofNat ((20 * k) + 12)) rfl (i_add (20 * k) 12) ?_
      refine Pv.iload rfl rfl ?_
      refine Pv.bin (z := Int32.ofNat (((20 * k) + 12) + i)) rfl (i_add ((20 * k) + 12) i) ?_
      refine Pv.aload rfl rfl ?_
      refine Pv.getR (v := .ref 71) rfl rfl (GW.at (a := 69) (k := 6) (b := 71) hx11 (by decide)) ?_
      refine Pv.lit rfl ?_
      refine Pv.iload rfl rfl ?_
      refine Pv.bin (z := Int32.ofNat (172 + i)) rfl (i_add 172 i) ?_
      refine Pv.ald (z := F.1 71 (172 + i)) rfl (by rw [i_toNat (by omega)]; exact hxG2.1 71 _ (by decide)) ?_
      refine Pv.astk (k := ((20 * k) + 12) + i) (z := F.1 71 (172 + i)) rfl (i_toNat (by omega)) (rfl) ?_
      refine Pv.iinc (y := Int32.ofNat (i + 1)) (lo' := [some (.ref 69), some (.int (Int32.ofNat k)), some (.int (Int32.ofNat (i + 1)))]) rfl rfl (i_add i 1) rfl ?_
      refine Pv.goto rfl ?_
      exact ih10 (i + 1, (fp G2 79 (((20 * k) + 12) + i) (F.1 71 (172 + i)))) (⟨by omega, (hxG2).fp (show 79 = 79 by omega)⟩)
  · skip
    replace c6 := mt (i_le (a := 12) (b := i) (by omega) (by omega)).mpr (of_decide_eq_false c6)
    refine Pv.aload rfl rfl ?_
    refine Pv.getR (v := .ref 79) rfl rfl (GW.at (a := 69) (k := 26) (b := 79) hx5 (by decide)) ?_
    refine Pv.lit rfl ?_
    refine Pv.iload rfl rfl ?_
    refine Pv.bin (z := Int32.ofNat (20 * k)) rfl (i_mul 20 k) ?_
    refine Pv.iload rfl rfl ?_
    refine Pv.bin (z := Int32.ofNat ((20 * k) + i)) rfl (i_add (20 * k) i) ?_
    refine Pv.aload rfl rfl ?_
    refine Pv.getR (v := .ref 71) rfl rfl (GW.at (a := 69) (k := 6) (b := 71) hx5 (by decide)) ?_
    refine Pv.lit rfl ?_
    refine Pv.iload rfl rfl ?_
    refine Pv.bin (z := Int32.ofNat (124 + i)) rfl (i_add 124 i) ?_
    refine Pv.ald (z := F.1 71 (124 + i)) rfl (by rw [i_toNat (by omega)]; exact hxG.1 71 _ (by decide)) ?_
    refine Pv.astk (k := (20 * k) + i) (z := F.1 71 (124 + i)) rfl (i_toNat (by omega)) (rfl) ?_
    refine Pv.iinc (y := Int32.ofNat (i + 1)) (lo' := [some (.ref 69), some (.int (Int32.ofNat k)), some (.int (Int32.ofNat (i + 1)))]) rfl rfl (i_add i 1) rfl ?_
    refine Pv.goto rfl ?_
    exact ih4 (i + 1, (fp G 79 ((20 * k) + i) (F.1 71 (124 + i)))) (⟨by omega, (hxG).fp (show 79 = 79 by omega)⟩)
set_option maxRecDepth 100000 in
set_option maxHeartbeats 4000000 in
theorem g_areAlike {F : FW} {k j : Nat} (hG : GW F) (hk3 : k < 3) (hj3 : j < 3) : Pm Z_X11_areAlike [.ref 69, .int (Int32.ofNat k), .int (Int32.ofNat j)] F (fun r F' => (∃ z, r = some (.int z)) ∧ F' = F) := by
  refine Pm.of fun N => ?_
  obtain ⟨Q, hQ⟩ : ∃ Q : Option Value → FW → Prop, Q = (fun r F' => (∃ z, r = some (.int z)) ∧ F' = F) := ⟨_, rfl⟩
  rw [← hQ]
  refine (show Pv (ab_T L_X11_areAlike) N 0 [some (.ref 69), some (.int (Int32.ofNat k)), some (.int (Int32.ofNat j)), none] [] F Q from ?_)
  refine Pv.lit rfl ?_
  refine Pv.istore (lo' := [some (.ref 69), some (.int (Int32.ofNat k)), some (.int (Int32.ofNat j)), some (.int 0)]) rfl rfl ?_
  refine Pv.lp (ι := Nat) (lof := fun i => [some (.ref 69), some (.int (Int32.ofNat k)), some (.int (Int32.ofNat j)), some (.int (Int32.ofNat i))]) (Ff := fun i => F) (P := fun i => i ≤ 20) ?_ 0 (Nat.zero_le _)
  rintro N1 hN2 i hi3 ih4
  refine (show Pv _ _ 2 [some (.ref 69), some (.int (Int32.ofNat k)), some (.int (Int32.ofNat j)), some (.int (Int32.ofNat i))] [] F Q from ?_)
  have hi0 := hi3
  refine Pv.iloadS rfl rfl ?_
  refine Pv.lit rfl ?_
  refine Pv.icmp rfl (fun c5 => ?_) (fun c5 => ?_)
  · skip
    replace c5 := (i_le (a := 20) (b := i) (by omega) (by omega)).mp (of_decide_eq_true c5)
    refine Pv.lit rfl ?_
    exact Pv.zret rfl (by rw [hQ]; exact ⟨⟨_, rfl⟩, rfl⟩)
  · skip
    replace c5 := mt (i_le (a := 20) (b := i) (by omega) (by omega)).mpr (of_decide_eq_false c5)
    refine Pv.aload rfl rfl ?_
    refine Pv.getR (v := .ref 79) rfl rfl (GW.at (a := 69) (k := 26) (b := 79) hG (by decide)) ?_
    refine Pv.lit rfl ?_
    refine Pv.iload rfl rfl ?_
    refine Pv.bin (z := Int32.ofNat (20 * k)) rfl (i_mul 20 k) ?_
    refine Pv.iload rfl rfl ?_
    refine Pv.bin (z := Int32.ofNat ((20 * k) + i)) rfl (i_add (20 * k) i) ?_
    refine Pv.ald (z := F.1 79 ((20 * k) + i)) rfl (by rw [i_toNat (by omega)]) ?_
    refine Pv.aload rfl rfl ?_
    refine Pv.getR (v := .ref 79) rfl rfl (GW.at (a := 69) (k := 26) (b := 79) hG (by decide)) ?_
    refine Pv.lit rfl ?_
    refine Pv.iload rfl rfl ?_
    refine Pv.bin (z := Int32.ofNat (20 * j)) rfl (i_mul 20 j) ?_
    refine Pv.iload rfl rfl ?_
    refine Pv.bin (z := Int32.ofNat ((20 * j) + i)) rfl (i_add (20 * j) i) ?_
    refine Pv.ald (z := F.1 79 ((20 * j) + i)) rfl (by rw [i_toNat (by omega)]) ?_
    refine Pv.icmp rfl (fun c6 => ?_) (fun c6 => ?_)
    · skip
      replace c6 := of_decide_eq_true c6
      refine Pv.iinc (y := Int32.ofNat (i + 1)) (lo' := [some (.ref 69), some (.int (Int32.ofNat k)), some (.int (Int32.ofNat j)), some (.int (Int32.ofNat (i + 1)))]) rfl rfl (i_add i 1) rfl ?_
      refine Pv.goto rfl ?_
      exact ih4 (i + 1) (by omega)
    · skip
      replace c6 := of_decide_eq_false c6
      refine Pv.lit rfl ?_
      exact Pv.zret rfl (by rw [hQ]; exact ⟨⟨_, rfl⟩, rfl⟩)
set_option maxRecDepth 100000 in
set_option maxHeartbeats 4000000 in
theorem q_settles {F : FW} {T : St} {S : Sh} (hT : XT F T) (hS : XS F (t_m T) S) (hG : GW F) (hTB : TBB T) (hI : INV T S) : Pm Z_X11_settles [.ref 69] F (fun r F' => (∃ z, r = some (.int z)) ∧ RDR F F') := by
  refine Pm.of fun N => ?_
  obtain ⟨Q, hQ⟩ : ∃ Q : Option Value → FW → Prop, Q = (fun r F' => (∃ z, r = some (.int z)) ∧ RDR F F') := ⟨_, rfl⟩
  rw [← hQ]
  have b3 := hT.mb
  have b4 := hT.nb
  have b5 := hT.gb
  have b6 := m_from_lt S
  have b7 := hS.db
  have hSB := hI.sb
  refine (show Pv (ab_T (L_X11_settles Z_X11_tries Z_X11_lays Z_X11_areAlike Z_X11_goesOn Z_X11_back)) N 0 [some (.ref 69), none, none] [] F Q from ?_)
  refine Pv.aload rfl rfl ?_
  refine Pv.lit rfl ?_
  refine Pv.putI rfl rfl ?_
  refine Pv.aload rfl rfl ?_
  refine Pv.callV (as := [.ref 69]) (rest := []) rfl rfl rfl (g_tries (hG.fx (P := fun _ => True) (((FX.rf (P := fun _ => True))).fp trivial))) ?_
  rintro _ G1 ⟨rfl, x2, y3⟩
  have rt4 := RT.of ((RDR.rf).fp (Or.inl rfl)) x2 y3
  have hs5 := RT.ofS ((RDR.rf).fp (Or.inl rfl)) x2 b3 hS
  have hx6 := RT.T rt4 hT
  have hx7 := RT.G rt4 hG
  refine (show Pv _ _ 9 [some (.ref 69), none, none] [] G1 Q from ?_)
  refine Pv.lit rfl ?_
  refine Pv.istore (lo' := [some (.ref 69), some (.int (-1)), none]) rfl rfl ?_
  refine Pv.lit rfl ?_
  refine Pv.istore (lo' := [some (.ref 69), some (.int (-1)), some (.int 0)]) rfl rfl ?_
  refine Pv.lp (ι := Nat × Int32 × FW × Nat) (lof := fun ⟨k, w, G, j⟩ => [some (.ref 69), some (.int w), some (.int (Int32.ofNat k))]) (Ff := fun ⟨k, w, G, j⟩ => G) (P := fun ⟨k, w, G, j⟩ => (k ≤ 203) ∧ (RT F G) ∧ (XS G (t_m T) (m_days T S j))) ?_ (0, (-1), G1, 0) (⟨Nat.zero_le _, rt4, hs5⟩)
  rintro N8 hN9 ⟨k, w, G, j⟩ hi10 ih11
  refine (show Pv _ _ 13 [some (.ref 69), some (.int w), some (.int (Int32.ofNat k))] [] G Q from ?_)
  obtain ⟨hk, rt, hxs⟩ := hi10
  have hx12 := RT.T rt hT
  have hx13 := RT.G rt hG
  have bD14 := XS.db hxs
  refine Pv.iloadS rfl rfl ?_
  refine Pv.lit rfl ?_
  refine Pv.icmp rfl (fun c15 => ?_) (fun c15 => ?_)
  · skip
    replace c15 := (i_lt (a := 202) (b := k) (by omega) (by omega)).mp (of_decide_eq_true c15)
    refine Pv.aload rfl rfl ?_
    refine Pv.callV (as := [.ref 69]) (rest := []) rfl rfl rfl (g_back hx13) ?_
    rintro _ G16 ⟨rfl, x17, y18, z19⟩
    have rd20 := RT.bk rt x17 y18 z19
    refine (show Pv _ _ 86 [some (.ref 69), some (.int w), some (.int (Int32.ofNat k))] [] G16 Q from ?_)
    refine Pv.iload rfl rfl ?_
    exact Pv.ret rfl (by rw [hQ]; exact ⟨⟨_, rfl⟩, rd20⟩)
  · skip
    replace c15 := mt (i_lt (a := 202) (b := k) (by omega) (by omega)).mpr (of_decide_eq_false c15)
    refine Pv.iload rfl rfl ?_
    refine Pv.if0 rfl (fun c21 => ?_) (fun c21 => ?_)
    · skip
      replace c21 := of_decide_eq_true c21
      refine Pv.aload rfl rfl ?_
      refine Pv.callV (as := [.ref 69]) (rest := []) rfl rfl rfl (g_back hx13) ?_
      rintro _ G22 ⟨rfl, x23, y24, z25⟩
      have rd26 := RT.bk rt x23 y24 z25
      refine (show Pv _ _ 86 [some (.ref 69), some (.int w), some (.int (Int32.ofNat k))] [] G22 Q from ?_)
      refine Pv.iload rfl rfl ?_
      exact Pv.ret rfl (by rw [hQ]; exact ⟨⟨_, rfl⟩, rd26⟩)
    · skip
      replace c21 := of_decide_eq_false c21
      refine Pv.aload rfl rfl ?_
      refine Pv.iload rfl rfl ?_
      refine Pv.lit rfl ?_
      refine Pv.irem (z := Int32.ofNat (k % 3)) rfl (i_remN (by omega) (by decide) (by decide)) ?_
      refine Pv.callV (as := [.ref 69, .int (Int32.ofNat (k % 3))]) (rest := []) rfl rfl rfl (g_lays (k := k % 3) hx13 (Nat.mod_lt _ (by decide))) ?_
      rintro _ G27 ⟨rfl, x28⟩
      have rt29 := RT.lay rt x28
      have hs30 := XS.fx hxs b3 x28 (by decide)
      have hx31 := RT.T rt29 hT
      have hx32 := RT.G rt29 hG
      refine (show Pv _ _ 31 [some (.ref 69), some (.int w), some (.int (Int32.ofNat k))] [] G27 Q from ?_)
      refine Pv.iload rfl rfl ?_
      refine Pv.lit rfl ?_
      refine Pv.icmp rfl (fun c33 => ?_) (fun c33 => ?_)
      · skip
        replace c33 := (i_le (a := k) (b := 1) (by omega) (by omega)).mp (of_decide_eq_true c33)
        refine Pv.aload rfl rfl ?_
        refine Pv.lit rfl ?_
        refine Pv.callV (as := [.ref 69, .int 1]) (rest := []) rfl rfl rfl (g_goesOn (n := 1) hx31 hs30 hx32 hTB (INV.sb (INV_days hTB hT.gb hI j)) (by omega)) ?_
        rintro _ G34 ⟨rfl, x35, hs36⟩
        have rt37 := RT.rx rt29 x35
        have hx38 := RT.T rt37 hT
        have hx39 := RT.G rt37 hG
        have bD40 := XS.db hs36
        refine (show Pv _ _ 69 [some (.ref 69), some (.int w), some (.int (Int32.ofNat k))] [.int (Int32.ofNat (h_d (m_days T (m_days T S j) 1) - h_d (m_days T S j)))] G34 Q from ?_)
        refine Pv.if0 rfl (fun c41 => ?_) (fun c41 => ?_)
        · skip
          replace c41 : decide (Int32.ofNat (h_d (m_days T (m_days T S j) 1) - h_d (m_days T S j)) = 0) = false := by simpa using c41
          replace c41 := mt (i_eq (a := h_d (m_days T (m_days T S j) 1) - h_d (m_days T S j)) (b := 0) (by omega) (by omega)).mpr (of_decide_eq_false c41)
          refine Pv.iinc (y := Int32.ofNat (k + 1)) (lo' := [some (.ref 69), some (.int w), some (.int (Int32.ofNat (k + 1)))]) rfl rfl (i_add k 1) rfl ?_
          refine Pv.goto rfl ?_
          exact ih11 (k + 1, w, G34, (j + 1)) (⟨by omega, rt37, hs36⟩)
        · skip
          replace c41 : decide (Int32.ofNat (h_d (m_days T (m_days T S j) 1) - h_d (m_days T S j)) = 0) = true := by simpa using c41
          replace c41 := (i_eq (a := h_d (m_days T (m_days T S j) 1) - h_d (m_days T S j)) (b := 0) (by omega) (by omega)).mp (of_decide_eq_true c41)
          refine Pv.lit rfl ?_
          refine Pv.istore (lo' := [some (.ref 69), some (.int w), some (.int 202)]) rfl rfl ?_
          refine Pv.iinc (y := Int32.ofNat (202 + 1)) (lo' := [some (.ref 69), some (.int w), some (.int (Int32.ofNat (202 + 1)))]) rfl rfl (i_add 202 1) rfl ?_
          refine Pv.goto rfl ?_
          exact ih11 (202 + 1, w, G34, (j + 1)) (⟨by omega, rt37, hs36⟩)
      · skip
        replace c33 := mt (i_le (a := k) (b := 1) (by omega) (by omega)).mpr (of_decide_eq_false c33)
        refine Pv.aload rfl rfl ?_
        refine Pv.iload rfl rfl ?_
        refine Pv.lit rfl ?_
        refine Pv.irem (z := Int32.ofNat (k % 3)) rfl (i_remN (by omega) (by decide) (by decide)) ?_
        refine Pv.iload rfl rfl ?_
        refine Pv.lit rfl ?_
        refine Pv.bin (z := Int32.ofNat (k - 2)) rfl (i_subN (a := k) (b := 2) (by omega)) ?_
        refine Pv.lit rfl ?_
        refine Pv.irem (z := Int32.ofNat ((k - 2) % 3)) rfl (i_remN (by omega) (by decide) (by decide)) ?_
        refine Pv.callV (as := [.ref 69, .int (Int32.ofNat (k % 3)), .int (Int32.ofNat ((k - 2) % 3))]) (rest := []) rfl rfl rfl (g_areAlike (k := k % 3) (j := (k - 2) % 3) hx32 (Nat.mod_lt _ (by decide)) (Nat.mod_lt _ (by decide))) ?_
        rintro _ Fe ⟨⟨z42, rfl⟩, ee⟩
        obtain rfl := ee.symm
        refine (show Pv _ _ 48 [some (.ref 69), some (.int w), some (.int (Int32.ofNat k))] [.int z42] G27 Q from ?_)
        refine Pv.if0 rfl (fun c43 => ?_) (fun c43 => ?_)
        · skip
          replace c43 := of_decide_eq_true c43
          refine Pv.aload rfl rfl ?_
          refine Pv.lit rfl ?_
          refine Pv.callV (as := [.ref 69, .int 1]) (rest := []) rfl rfl rfl (g_goesOn (n := 1) hx31 hs30 hx32 hTB (INV.sb (INV_days hTB hT.gb hI j)) (by omega)) ?_
          rintro _ G44 ⟨rfl, x45, hs46⟩
          have rt47 := RT.rx rt29 x45
          have hx48 := RT.T rt47 hT
          have hx49 := RT.G rt47 hG
          have bD50 := XS.db hs46
          refine (show Pv _ _ 69 [some (.ref 69), some (.int w), some (.int (Int32.ofNat k))] [.int (Int32.ofNat (h_d (m_days T (m_days T S j) 1) - h_d (m_days T S j)))] G44 Q from ?_)
          refine Pv.if0 rfl (fun c51 => ?_) (fun c51 => ?_)
          · skip
            replace c51 : decide (Int32.ofNat (h_d (m_days T (m_days T S j) 1) - h_d (m_days T S j)) = 0) = false := by simpa using c51
            replace c51 := mt (i_eq (a := h_d (m_days T (m_days T S j) 1) - h_d (m_days T S j)) (b := 0) (by omega) (by omega)).mpr (of_decide_eq_false c51)
            refine Pv.iinc (y := Int32.ofNat (k + 1)) (lo' := [some (.ref 69), some (.int w), some (.int (Int32.ofNat (k + 1)))]) rfl rfl (i_add k 1) rfl ?_
            refine Pv.goto rfl ?_
            exact ih11 (k + 1, w, G44, (j + 1)) (⟨by omega, rt47, hs46⟩)
          · skip
            replace c51 : decide (Int32.ofNat (h_d (m_days T (m_days T S j) 1) - h_d (m_days T S j)) = 0) = true := by simpa using c51
            replace c51 := (i_eq (a := h_d (m_days T (m_days T S j) 1) - h_d (m_days T S j)) (b := 0) (by omega) (by omega)).mp (of_decide_eq_true c51)
            refine Pv.lit rfl ?_
            refine Pv.istore (lo' := [some (.ref 69), some (.int w), some (.int 202)]) rfl rfl ?_
            refine Pv.iinc (y := Int32.ofNat (202 + 1)) (lo' := [some (.ref 69), some (.int w), some (.int (Int32.ofNat (202 + 1)))]) rfl rfl (i_add 202 1) rfl ?_
            refine Pv.goto rfl ?_
            exact ih11 (202 + 1, w, G44, (j + 1)) (⟨by omega, rt47, hs46⟩)
        · skip
          replace c43 := of_decide_eq_false c43
          refine Pv.aload rfl rfl ?_
          refine Pv.getR (v := .ref 71) rfl rfl (GW.at (a := 69) (k := 6) (b := 71) hx32 (by decide)) ?_
          refine Pv.lit rfl ?_
          refine Pv.ald (z := Int32.ofNat (h_d (m_days T S j))) rfl (hs30.d) ?_
          refine Pv.lit rfl ?_
          refine Pv.bin (z := (Int32.ofNat (h_d (m_days T S j))) - 2) rfl (rfl) ?_
          refine Pv.istore (lo' := [some (.ref 69), some (.int ((Int32.ofNat (h_d (m_days T S j))) - 2)), some (.int (Int32.ofNat k))]) rfl rfl ?_
          refine Pv.goto rfl ?_
          refine Pv.iinc (y := Int32.ofNat (k + 1)) (lo' := [some (.ref 69), some (.int ((Int32.ofNat (h_d (m_days T S j))) - 2)), some (.int (Int32.ofNat (k + 1)))]) rfl rfl (i_add k 1) rfl ?_
          refine Pv.goto rfl ?_
          exact ih11 (k + 1, (Int32.ofNat (h_d (m_days T S j))) - 2, G27, j) (⟨by omega, rt29, hs30⟩)
set_option maxRecDepth 100000 in
set_option maxHeartbeats 4000000 in
theorem o_logged {F : FW} {t : Nat} {T : St} {S : Sh} (hG : GW F) (ht : F.2.1 0 13 = .ref t) (hT : TR F t T) (hS : SHR F 12 (t_m T) S) (j0 : t = 45 ∨ t = 53) {f : Nat → Int32} (hf : AR F 44 4 f) (h44 : F.2.2.2.2 44 = 4) (w : Int32) : Pm Z_X10_logged [.ref 0, .int w] F (fun r F' => r = some (.int (a_logged f w)) ∧ F' = F) := by
  refine Pm.of fun N => ?_
  obtain ⟨Q, hQ⟩ : ∃ Q : Option Value → FW → Prop, Q = (fun r F' => r = some (.int (a_logged f w)) ∧ F' = F) := ⟨_, rfl⟩
  rw [← hQ]
  have b3 := hT.mb
  have b4 := hT.nb
  have b5 := hT.gb
  have b6 := m_from_lt S
  have b7 := hS.db
  refine (show Pv (ab_T L_X10_logged) N 0 [some (.ref 0), some (.int w)] [] F Q from ?_)
  refine Pv.iload rfl rfl ?_
  refine Pv.if0 rfl (fun c1 => ?_) (fun c1 => ?_)
  · skip
    replace c1 := of_decide_eq_true c1
    refine Pv.lit rfl ?_
    exact Pv.ret rfl (by rw [hQ]; exact ⟨by rw [a_logged_n (nd_f (by rw [← nd_b (by omega), decide_eq_true c1]; rfl))], rfl⟩)
  · skip
    replace c1 := of_decide_eq_false c1
    refine Pv.iload rfl rfl ?_
    refine Pv.aload rfl rfl ?_
    refine Pv.getR (v := .ref 44) rfl rfl (GW.at (a := 0) (k := 12) (b := 44) hG (by decide)) ?_
    refine Pv.alen rfl ?_
    rw [h44]
    refine Pv.icmp rfl (fun c2 => ?_) (fun c2 => ?_)
    · skip
      replace c2 := of_decide_eq_true c2
      refine Pv.lit rfl ?_
      exact Pv.ret rfl (by rw [hQ]; exact ⟨by rw [a_logged_n (nd_f (by rw [← nd_b (by omega), decide_eq_false c1, decide_eq_true c2]; rfl))], rfl⟩)
    · skip
      replace c2 := of_decide_eq_false c2
      obtain ⟨k, hk, hkl, rfl⟩ := nd_t (n := 4) (x := w) (by rw [← nd_b (by omega), decide_eq_false c1, decide_eq_false c2]; rfl)
      refine Pv.aload rfl rfl ?_
      refine Pv.getR (v := .ref 44) rfl rfl (GW.at (a := 0) (k := 12) (b := 44) hG (by decide)) ?_
      refine Pv.iload rfl rfl ?_
      refine Pv.ald (z := f k) rfl (by rw [i_toNat (by omega)]; exact hf _ (by omega)) ?_
      refine Pv.goto rfl ?_
      exact Pv.ret rfl (by rw [hQ]; exact ⟨by rw [a_logged_y hk], rfl⟩)
set_option maxRecDepth 100000 in
set_option maxHeartbeats 4000000 in
theorem q_logged1 {F : FW} (hG : GW F) {f : Nat → Int32} (h32 : F.1 69 32 = 1) (hf : AR F 81 4 f) (w : Int32) : Pm Z_X11_logged [.ref 69, .int w] F (fun r F' => r = some (.int (a_logged f w)) ∧ F' = fp F 69 0 0) := by
  refine Pm.of fun N => ?_
  obtain ⟨Q, hQ⟩ : ∃ Q : Option Value → FW → Prop, Q = (fun r F' => r = some (.int (a_logged f w)) ∧ F' = fp F 69 0 0) := ⟨_, rfl⟩
  rw [← hQ]
  refine (show Pv (ab_T (L_X11_logged Z_X11_isIn)) N 0 [some (.ref 69), some (.int w)] [] F Q from ?_)
  refine Pv.aload rfl rfl ?_
  refine Pv.lit rfl ?_
  refine Pv.putI rfl rfl ?_
  refine Pv.aload rfl rfl ?_
  refine Pv.getI (z := 1) rfl rfl ((fp_ne (Or.inr (by decide))).trans (h32)) ?_
  refine Pv.if0 rfl (fun c1 => ?_) (fun c1 => ?_)
  · skip
    replace c1 := (i_eq (a := 1) (b := 0) (by omega) (by omega)).mp (of_decide_eq_true c1)
    omega
  · skip
    replace c1 := mt (i_eq (a := 1) (b := 0) (by omega) (by omega)).mpr (of_decide_eq_false c1)
    refine Pv.iload rfl rfl ?_
    refine Pv.lit rfl ?_
    refine Pv.lit rfl ?_
    refine Pv.callI (as := [.int w, .int 0, .int 3]) (rest := []) (z := b2i (decide (0 ≤ w) && decide (w ≤ 3))) rfl rfl rfl (q_isIn w 0 3) ?_
    refine Pv.if0 rfl (fun c2 => ?_) (fun c2 => ?_)
    · skip
      replace c2 := of_decide_eq_true c2
      replace c2 := b2z.mp c2
      refine Pv.lit rfl ?_
      exact Pv.ret rfl (by rw [hQ]; exact ⟨by rw [a_logged_n (nd_f ((nd_in2 (n := 4) (m := 3) rfl (by decide)).symm.trans c2))], rfl⟩)
    · skip
      replace c2 := of_decide_eq_false c2
      replace c2 := b2n.mp c2
      obtain ⟨k, hk, hkl, rfl⟩ := nd_t ((nd_in2 (n := 4) (m := 3) rfl (by decide)).symm.trans c2)
      refine Pv.aload rfl rfl ?_
      refine Pv.getR (v := .ref 81) rfl rfl (GW.at (a := 69) (k := 31) (b := 81) hG (by decide)) ?_
      refine Pv.iload rfl rfl ?_
      refine Pv.ald (z := f k) rfl (by rw [i_toNat (by omega)]; exact (fp_ne (Or.inl (by decide))).trans (hf _ (by omega))) ?_
      refine Pv.goto rfl ?_
      exact Pv.ret rfl (by rw [hQ]; exact ⟨by rw [a_logged_y hk], rfl⟩)
set_option maxRecDepth 100000 in
set_option maxHeartbeats 4000000 in
theorem q_logged0 {F : FW} (hG : GW F) {f : Nat → Int32} (h32 : F.1 69 32 = 0) (hf : ∀ k, k < 4 → f k = -1) (w : Int32) : Pm Z_X11_logged [.ref 69, .int w] F (fun r F' => r = some (.int (a_logged f w)) ∧ F' = fp F 69 0 0) := by
  refine Pm.of fun N => ?_
  obtain ⟨Q, hQ⟩ : ∃ Q : Option Value → FW → Prop, Q = (fun r F' => r = some (.int (a_logged f w)) ∧ F' = fp F 69 0 0) := ⟨_, rfl⟩
  rw [← hQ]
  refine (show Pv (ab_T (L_X11_logged Z_X11_isIn)) N 0 [some (.ref 69), some (.int w)] [] F Q from ?_)
  refine Pv.aload rfl rfl ?_
  refine Pv.lit rfl ?_
  refine Pv.putI rfl rfl ?_
  refine Pv.aload rfl rfl ?_
  refine Pv.getI (z := 0) rfl rfl ((fp_ne (Or.inr (by decide))).trans (h32)) ?_
  refine Pv.if0 rfl (fun c1 => ?_) (fun c1 => ?_)
  · skip
    replace c1 := (i_eq (a := 0) (b := 0) (by omega) (by omega)).mp (of_decide_eq_true c1)
    refine Pv.lit rfl ?_
    exact Pv.ret rfl (by rw [hQ]; exact ⟨by rw [a_logged_0 hf], rfl⟩)
  · skip
    replace c1 := mt (i_eq (a := 0) (b := 0) (by omega) (by omega)).mpr (of_decide_eq_false c1)
    omega
set_option maxRecDepth 100000 in
set_option maxHeartbeats 4000000 in
theorem q_price {F : FW} {p : Nat} {v : Int32} {f : Nat → Int32} (hG : GW F) (hv : F.1 69 28 = v) (hp6 : p ≤ 6) (hp : v = Int32.ofNat p ∨ (p = 0 ∧ v = -1)) (hf : AR F 80 12 f) (x y : Int32) : Pm Z_X11_price [.ref 69, .int x, .int y] F (fun r F' => r = some (.int (a_price p f x y)) ∧ F' = fp F 69 0 0) := by
  refine Pm.of fun N => ?_
  obtain ⟨Q, hQ⟩ : ∃ Q : Option Value → FW → Prop, Q = (fun r F' => r = some (.int (a_price p f x y)) ∧ F' = fp F 69 0 0) := ⟨_, rfl⟩
  rw [← hQ]
  refine (show Pv (ab_T (L_X11_price Z_X11_isIn Z_X11_isShore Z_X11_cell)) N 0 [some (.ref 69), some (.int x), some (.int y)] [] F Q from ?_)
  refine Pv.aload rfl rfl ?_
  refine Pv.lit rfl ?_
  refine Pv.putI rfl rfl ?_
  refine Pv.iload rfl rfl ?_
  refine Pv.lit rfl ?_
  refine Pv.aload rfl rfl ?_
  refine Pv.getI (z := v) rfl rfl ((fp_ne (Or.inr (by decide))).trans (hv)) ?_
  refine Pv.lit rfl ?_
  refine Pv.bin (z := v - 1) rfl (rfl) ?_
  refine Pv.callI (as := [.int x, .int 0, .int (v - 1)]) (rest := []) (z := b2i (decide (0 ≤ x) && decide (x ≤ (v - 1)))) rfl rfl rfl (q_isIn x 0 (v - 1)) ?_
  refine Pv.if0 rfl (fun c1 => ?_) (fun c1 => ?_)
  · skip
    replace c1 := of_decide_eq_true c1
    replace c1 := b2z.mp c1
    refine Pv.lit rfl ?_
    exact Pv.ret rfl (by rw [hQ]; exact ⟨by rw [a_price_n1 (nd_f ((price_z hp6 hp).symm.trans c1))], rfl⟩)
  · skip
    replace c1 := of_decide_eq_false c1
    replace c1 := b2n.mp c1
    refine Pv.aload rfl rfl ?_
    refine Pv.iload rfl rfl ?_
    refine Pv.callVI (as := [.ref 69, .int y]) (rest := []) (z := b2i (nd 2 y).isSome) rfl rfl rfl (q_isShore y) ?_
    refine Pv.if0 rfl (fun c2 => ?_) (fun c2 => ?_)
    · skip
      replace c2 := of_decide_eq_true c2
      replace c2 := b2z.mp c2
      refine Pv.lit rfl ?_
      exact Pv.ret rfl (by rw [hQ]; exact ⟨by rw [a_price_n2 (nd_f c2)], rfl⟩)
    · skip
      replace c2 := of_decide_eq_false c2
      replace c2 := b2n.mp c2
      obtain ⟨g, hg, hgl, rfl⟩ := nd_t ((price_z hp6 hp).symm.trans c1)
      obtain ⟨s, hs, hsl, rfl⟩ := nd_t c2
      refine Pv.aload rfl rfl ?_
      refine Pv.getR (v := .ref 80) rfl rfl (GW.at (a := 69) (k := 27) (b := 80) hG (by decide)) ?_
      refine Pv.iload rfl rfl ?_
      refine Pv.iload rfl rfl ?_
      refine Pv.callI (as := [.int (Int32.ofNat g), .int (Int32.ofNat s)]) (rest := [.ref 80]) (z := Int32.ofNat (2 * g + s)) rfl rfl rfl (g_cell (g := g) (s := s)) ?_
      refine Pv.ald (z := f (2 * g + s)) rfl (by rw [i_toNat (by omega)]; exact (fp_ne (Or.inl (by decide))).trans (hf _ (by omega))) ?_
      refine Pv.goto rfl ?_
      exact Pv.ret rfl (by rw [hQ]; exact ⟨by unfold a_price; rw [hg]; dsimp only; rw [hs], rfl⟩)
set_option maxRecDepth 100000 in
set_option maxHeartbeats 4000000 in
theorem q_fault {F : FW} : Pm Z_X11_fault [.ref 69] F (fun r F' => r = some (.int (F.1 69 15)) ∧ F' = fp F 69 0 0) := by
  refine Pm.of fun N => ?_
  obtain ⟨Q, hQ⟩ : ∃ Q : Option Value → FW → Prop, Q = (fun r F' => r = some (.int (F.1 69 15)) ∧ F' = fp F 69 0 0) := ⟨_, rfl⟩
  rw [← hQ]
  refine (show Pv (ab_T L_X11_fault) N 0 [some (.ref 69)] [] F Q from ?_)
  refine Pv.aload rfl rfl ?_
  refine Pv.lit rfl ?_
  refine Pv.putI rfl rfl ?_
  refine Pv.aload rfl rfl ?_
  refine Pv.getI (z := F.1 69 15) rfl rfl (fp_ne (Or.inr (by decide))) ?_
  exact Pv.ret rfl (by rw [hQ]; exact ⟨rfl, rfl⟩)
set_option maxRecDepth 100000 in
set_option maxHeartbeats 4000000 in
theorem q_count0 {F : FW} {T : St} (hT : XT F T) (hG : GW F) {e : Int32} (he : F.1 69 2 = e) : Pm Z_X11_count [.ref 69, .int 0] F (fun r F' => r = some (.int (a_count T e 0)) ∧ F' = fp F 69 0 0) := by
  refine Pm.of fun N => ?_
  obtain ⟨Q, hQ⟩ : ∃ Q : Option Value → FW → Prop, Q = (fun r F' => r = some (.int (a_count T e 0)) ∧ F' = fp F 69 0 0) := ⟨_, rfl⟩
  rw [← hQ]
  refine (show Pv (ab_T (L_X11_count Z_X11_isIn)) N 0 [some (.ref 69), some (.int 0)] [] F Q from ?_)
  refine Pv.aload rfl rfl ?_
  refine Pv.lit rfl ?_
  refine Pv.putI rfl rfl ?_
  refine Pv.iload rfl rfl ?_
  refine Pv.lit rfl ?_
  refine Pv.icmp rfl (fun c1 => ?_) (fun c1 => ?_)
  · skip
    replace c1 : decide ((0 : Int32) = 4) = false := by simpa using c1
    replace c1 := mt (i_eq (a := 0) (b := 4) (by omega) (by omega)).mpr (of_decide_eq_false c1)
    refine Pv.iload rfl rfl ?_
    refine Pv.lit rfl ?_
    refine Pv.lit rfl ?_
    refine Pv.callI (as := [.int 0, .int 0, .int 3]) (rest := []) (z := b2i (decide (0 ≤ (0 : Int32)) && decide ((0 : Int32) ≤ 3))) rfl rfl rfl (q_isIn 0 0 3) ?_
    refine Pv.if0 rfl (fun c2 => ?_) (fun c2 => ?_)
    · skip
      replace c2 := of_decide_eq_true c2
      replace c2 := b2z.mp c2
      exact absurd c2 (by decide)
    · skip
      replace c2 := of_decide_eq_false c2
      replace c2 := b2n.mp c2
      refine Pv.aload rfl rfl ?_
      refine Pv.getR (v := .ref 71) rfl rfl (GW.at (a := 69) (k := 6) (b := 71) hG (by decide)) ?_
      refine Pv.iload rfl rfl ?_
      refine Pv.ald (z := Int32.ofNat (t_g T)) rfl ((fp_ne (Or.inl (by decide))).trans (hT.g)) ?_
      refine Pv.goto rfl ?_
      exact Pv.ret rfl (by rw [hQ]; exact ⟨rfl, rfl⟩)
  · skip
    replace c1 : decide ((0 : Int32) = 4) = true := by simpa using c1
    replace c1 := (i_eq (a := 0) (b := 4) (by omega) (by omega)).mp (of_decide_eq_true c1)
    omega
set_option maxRecDepth 100000 in
set_option maxHeartbeats 4000000 in
theorem q_count1 {F : FW} {T : St} (hT : XT F T) (hG : GW F) {e : Int32} (he : F.1 69 2 = e) : Pm Z_X11_count [.ref 69, .int 1] F (fun r F' => r = some (.int (a_count T e 1)) ∧ F' = fp F 69 0 0) := by
  refine Pm.of fun N => ?_
  obtain ⟨Q, hQ⟩ : ∃ Q : Option Value → FW → Prop, Q = (fun r F' => r = some (.int (a_count T e 1)) ∧ F' = fp F 69 0 0) := ⟨_, rfl⟩
  rw [← hQ]
  refine (show Pv (ab_T (L_X11_count Z_X11_isIn)) N 0 [some (.ref 69), some (.int 1)] [] F Q from ?_)
  refine Pv.aload rfl rfl ?_
  refine Pv.lit rfl ?_
  refine Pv.putI rfl rfl ?_
  refine Pv.iload rfl rfl ?_
  refine Pv.lit rfl ?_
  refine Pv.icmp rfl (fun c1 => ?_) (fun c1 => ?_)
  · skip
    replace c1 : decide ((1 : Int32) = 4) = false := by simpa using c1
    replace c1 := mt (i_eq (a := 1) (b := 4) (by omega) (by omega)).mpr (of_decide_eq_false c1)
    refine Pv.iload rfl rfl ?_
    refine Pv.lit rfl ?_
    refine Pv.lit rfl ?_
    refine Pv.callI (as := [.int 1, .int 0, .int 3]) (rest := []) (z := b2i (decide (0 ≤ (1 : Int32)) && decide ((1 : Int32) ≤ 3))) rfl rfl rfl (q_isIn 1 0 3) ?_
    refine Pv.if0 rfl (fun c2 => ?_) (fun c2 => ?_)
    · skip
      replace c2 := of_decide_eq_true c2
      replace c2 := b2z.mp c2
      exact absurd c2 (by decide)
    · skip
      replace c2 := of_decide_eq_false c2
      replace c2 := b2n.mp c2
      refine Pv.aload rfl rfl ?_
      refine Pv.getR (v := .ref 71) rfl rfl (GW.at (a := 69) (k := 6) (b := 71) hG (by decide)) ?_
      refine Pv.iload rfl rfl ?_
      refine Pv.ald (z := Int32.ofNat (t_m T)) rfl ((fp_ne (Or.inl (by decide))).trans (hT.m)) ?_
      refine Pv.goto rfl ?_
      exact Pv.ret rfl (by rw [hQ]; exact ⟨rfl, rfl⟩)
  · skip
    replace c1 : decide ((1 : Int32) = 4) = true := by simpa using c1
    replace c1 := (i_eq (a := 1) (b := 4) (by omega) (by omega)).mp (of_decide_eq_true c1)
    omega
set_option maxRecDepth 100000 in
set_option maxHeartbeats 4000000 in
theorem q_count2 {F : FW} {T : St} (hT : XT F T) (hG : GW F) {e : Int32} (he : F.1 69 2 = e) : Pm Z_X11_count [.ref 69, .int 2] F (fun r F' => r = some (.int (a_count T e 2)) ∧ F' = fp F 69 0 0) := by
  refine Pm.of fun N => ?_
  obtain ⟨Q, hQ⟩ : ∃ Q : Option Value → FW → Prop, Q = (fun r F' => r = some (.int (a_count T e 2)) ∧ F' = fp F 69 0 0) := ⟨_, rfl⟩
  rw [← hQ]
  refine (show Pv (ab_T (L_X11_count Z_X11_isIn)) N 0 [some (.ref 69), some (.int 2)] [] F Q from ?_)
  refine Pv.aload rfl rfl ?_
  refine Pv.lit rfl ?_
  refine Pv.putI rfl rfl ?_
  refine Pv.iload rfl rfl ?_
  refine Pv.lit rfl ?_
  refine Pv.icmp rfl (fun c1 => ?_) (fun c1 => ?_)
  · skip
    replace c1 : decide ((2 : Int32) = 4) = false := by simpa using c1
    replace c1 := mt (i_eq (a := 2) (b := 4) (by omega) (by omega)).mpr (of_decide_eq_false c1)
    refine Pv.iload rfl rfl ?_
    refine Pv.lit rfl ?_
    refine Pv.lit rfl ?_
    refine Pv.callI (as := [.int 2, .int 0, .int 3]) (rest := []) (z := b2i (decide (0 ≤ (2 : Int32)) && decide ((2 : Int32) ≤ 3))) rfl rfl rfl (q_isIn 2 0 3) ?_
    refine Pv.if0 rfl (fun c2 => ?_) (fun c2 => ?_)
    · skip
      replace c2 := of_decide_eq_true c2
      replace c2 := b2z.mp c2
      exact absurd c2 (by decide)
    · skip
      replace c2 := of_decide_eq_false c2
      replace c2 := b2n.mp c2
      refine Pv.aload rfl rfl ?_
      refine Pv.getR (v := .ref 71) rfl rfl (GW.at (a := 69) (k := 6) (b := 71) hG (by decide)) ?_
      refine Pv.iload rfl rfl ?_
      refine Pv.ald (z := t_l T) rfl ((fp_ne (Or.inl (by decide))).trans (hT.l)) ?_
      refine Pv.goto rfl ?_
      exact Pv.ret rfl (by rw [hQ]; exact ⟨rfl, rfl⟩)
  · skip
    replace c1 : decide ((2 : Int32) = 4) = true := by simpa using c1
    replace c1 := (i_eq (a := 2) (b := 4) (by omega) (by omega)).mp (of_decide_eq_true c1)
    omega
set_option maxRecDepth 100000 in
set_option maxHeartbeats 4000000 in
theorem q_count3 {F : FW} {T : St} (hT : XT F T) (hG : GW F) {e : Int32} (he : F.1 69 2 = e) : Pm Z_X11_count [.ref 69, .int 3] F (fun r F' => r = some (.int (a_count T e 3)) ∧ F' = fp F 69 0 0) := by
  refine Pm.of fun N => ?_
  obtain ⟨Q, hQ⟩ : ∃ Q : Option Value → FW → Prop, Q = (fun r F' => r = some (.int (a_count T e 3)) ∧ F' = fp F 69 0 0) := ⟨_, rfl⟩
  rw [← hQ]
  refine (show Pv (ab_T (L_X11_count Z_X11_isIn)) N 0 [some (.ref 69), some (.int 3)] [] F Q from ?_)
  refine Pv.aload rfl rfl ?_
  refine Pv.lit rfl ?_
  refine Pv.putI rfl rfl ?_
  refine Pv.iload rfl rfl ?_
  refine Pv.lit rfl ?_
  refine Pv.icmp rfl (fun c1 => ?_) (fun c1 => ?_)
  · skip
    replace c1 : decide ((3 : Int32) = 4) = false := by simpa using c1
    replace c1 := mt (i_eq (a := 3) (b := 4) (by omega) (by omega)).mpr (of_decide_eq_false c1)
    refine Pv.iload rfl rfl ?_
    refine Pv.lit rfl ?_
    refine Pv.lit rfl ?_
    refine Pv.callI (as := [.int 3, .int 0, .int 3]) (rest := []) (z := b2i (decide (0 ≤ (3 : Int32)) && decide ((3 : Int32) ≤ 3))) rfl rfl rfl (q_isIn 3 0 3) ?_
    refine Pv.if0 rfl (fun c2 => ?_) (fun c2 => ?_)
    · skip
      replace c2 := of_decide_eq_true c2
      replace c2 := b2z.mp c2
      exact absurd c2 (by decide)
    · skip
      replace c2 := of_decide_eq_false c2
      replace c2 := b2n.mp c2
      refine Pv.aload rfl rfl ?_
      refine Pv.getR (v := .ref 71) rfl rfl (GW.at (a := 69) (k := 6) (b := 71) hG (by decide)) ?_
      refine Pv.iload rfl rfl ?_
      refine Pv.ald (z := Int32.ofNat (t_n T)) rfl ((fp_ne (Or.inl (by decide))).trans (hT.n)) ?_
      refine Pv.goto rfl ?_
      exact Pv.ret rfl (by rw [hQ]; exact ⟨rfl, rfl⟩)
  · skip
    replace c1 : decide ((3 : Int32) = 4) = true := by simpa using c1
    replace c1 := (i_eq (a := 3) (b := 4) (by omega) (by omega)).mp (of_decide_eq_true c1)
    omega
set_option maxRecDepth 100000 in
set_option maxHeartbeats 4000000 in
theorem q_count4 {F : FW} {T : St} (hT : XT F T) (hG : GW F) {e : Int32} (he : F.1 69 2 = e) : Pm Z_X11_count [.ref 69, .int 4] F (fun r F' => r = some (.int (a_count T e 4)) ∧ F' = fp F 69 0 0) := by
  refine Pm.of fun N => ?_
  obtain ⟨Q, hQ⟩ : ∃ Q : Option Value → FW → Prop, Q = (fun r F' => r = some (.int (a_count T e 4)) ∧ F' = fp F 69 0 0) := ⟨_, rfl⟩
  rw [← hQ]
  refine (show Pv (ab_T (L_X11_count Z_X11_isIn)) N 0 [some (.ref 69), some (.int 4)] [] F Q from ?_)
  refine Pv.aload rfl rfl ?_
  refine Pv.lit rfl ?_
  refine Pv.putI rfl rfl ?_
  refine Pv.iload rfl rfl ?_
  refine Pv.lit rfl ?_
  refine Pv.icmp rfl (fun c1 => ?_) (fun c1 => ?_)
  · skip
    replace c1 : decide ((4 : Int32) = 4) = false := by simpa using c1
    replace c1 := mt (i_eq (a := 4) (b := 4) (by omega) (by omega)).mpr (of_decide_eq_false c1)
    omega
  · skip
    replace c1 : decide ((4 : Int32) = 4) = true := by simpa using c1
    replace c1 := (i_eq (a := 4) (b := 4) (by omega) (by omega)).mp (of_decide_eq_true c1)
    refine Pv.aload rfl rfl ?_
    refine Pv.getI (z := e) rfl rfl ((fp_ne (Or.inr (by decide))).trans (he)) ?_
    refine Pv.goto rfl ?_
    exact Pv.ret rfl (by rw [hQ]; exact ⟨rfl, rfl⟩)
set_option maxRecDepth 100000 in
set_option maxHeartbeats 4000000 in
theorem q_countn {F : FW} {T : St} (hT : XT F T) (hG : GW F) {e : Int32} (he : F.1 69 2 = e) {w : Int32} (hw : nd 5 w = none) : Pm Z_X11_count [.ref 69, .int w] F (fun r F' => r = some (.int (a_count T e w)) ∧ F' = fp F 69 0 0) := by
  refine Pm.of fun N => ?_
  obtain ⟨Q, hQ⟩ : ∃ Q : Option Value → FW → Prop, Q = (fun r F' => r = some (.int (a_count T e w)) ∧ F' = fp F 69 0 0) := ⟨_, rfl⟩
  rw [← hQ]
  refine (show Pv (ab_T (L_X11_count Z_X11_isIn)) N 0 [some (.ref 69), some (.int w)] [] F Q from ?_)
  refine Pv.aload rfl rfl ?_
  refine Pv.lit rfl ?_
  refine Pv.putI rfl rfl ?_
  refine Pv.iload rfl rfl ?_
  refine Pv.lit rfl ?_
  refine Pv.icmp rfl (fun c1 => ?_) (fun c1 => ?_)
  · skip
    replace c1 : decide (w = 4) = false := by simpa using c1
    replace c1 := of_decide_eq_false c1
    refine Pv.iload rfl rfl ?_
    refine Pv.lit rfl ?_
    refine Pv.lit rfl ?_
    refine Pv.callI (as := [.int w, .int 0, .int 3]) (rest := []) (z := b2i (decide (0 ≤ w) && decide (w ≤ 3))) rfl rfl rfl (q_isIn w 0 3) ?_
    refine Pv.if0 rfl (fun c2 => ?_) (fun c2 => ?_)
    · skip
      replace c2 := of_decide_eq_true c2
      replace c2 := b2z.mp c2
      refine Pv.lit rfl ?_
      exact Pv.ret rfl (by rw [hQ]; exact ⟨by unfold a_count; rw [hw], rfl⟩)
    · skip
      replace c2 := of_decide_eq_false c2
      replace c2 := b2n.mp c2
      exact absurd ((nd_in2 (n := 4) (m := 3) rfl (by decide)).symm.trans c2) (by rw [nd_53 hw]; decide)
  · skip
    replace c1 : decide (w = 4) = true := by simpa using c1
    replace c1 := of_decide_eq_true c1
    exact absurd c1 (nd_54 hw)
