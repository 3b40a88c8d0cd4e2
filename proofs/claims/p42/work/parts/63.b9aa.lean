set_option maxRecDepth 100000 in
set_option maxHeartbeats 4000000 in
theorem r_st123 {F : FW} {o1 : Option Value} (hG : GW F) (N : Nat) : Pv (ab_T (L_X11_strait Z_X11_taken Z_X11_next Z_X11_line Z_X11_sign)) N 123 [some (.ref 69), o1] [] F (fun r F' => r = some (.int (F.1 69 19)) ∧ STE F F') := by
  obtain ⟨Q, hQ⟩ : ∃ Q : Option Value → FW → Prop, Q = (fun r F' => r = some (.int (F.1 69 19)) ∧ STE F F') := ⟨_, rfl⟩
  rw [← hQ]
  refine (show Pv (ab_T (L_X11_strait Z_X11_taken Z_X11_next Z_X11_line Z_X11_sign)) N 123 [some (.ref 69), o1] [] F Q from ?_)
  refine Pv.lit rfl ?_
  refine Pv.istore (lo' := [some (.ref 69), some (.int 0)]) rfl rfl ?_
  refine Pv.lp (ι := Nat × FW) (lof := fun ⟨i1, A⟩ => [some (.ref 69), some (.int (Int32.ofNat i1))]) (Ff := fun ⟨i1, A⟩ => A) (P := fun ⟨i1, A⟩ => (i1 ≤ 434) ∧ (FX (fun q => q = 71) F A) ∧ (∀ j, j < i1 → A.1 71 j = (if j < 120 then F.1 72 j else 0))) ?_ (0, F) (⟨Nat.zero_le _, FX.rf, fun j hj => absurd hj (Nat.not_lt_zero j)⟩)
  rintro N1 hN2 ⟨i1, A⟩ hi3 ih4
  refine (show Pv _ _ 125 [some (.ref 69), some (.int (Int32.ofNat i1))] [] A Q from ?_)
  obtain ⟨hi1, xa, ha⟩ := hi3
  have gA := GW.fx hG xa
  refine Pv.iloadS rfl rfl ?_
  refine Pv.lit rfl ?_
  refine Pv.icmp rfl (fun c5 => ?_) (fun c5 => ?_)
  · skip
    replace c5 := (i_le (a := 434) (b := i1) (by omega) (by omega)).mp (of_decide_eq_true c5)
    refine Pv.lit rfl ?_
    refine Pv.istore (lo' := [some (.ref 69), some (.int 0)]) rfl rfl ?_
    refine Pv.lp (ι := Nat × FW) (lof := fun ⟨i2, C⟩ => [some (.ref 69), some (.int (Int32.ofNat i2))]) (Ff := fun ⟨i2, C⟩ => C) (P := fun ⟨i2, C⟩ => (i2 ≤ 14) ∧ (FX (fun q => q = 74) A C) ∧ (∀ j, j < i2 → C.2.2.1 74 j = A.2.2.1 74 (14 + j)) ∧ (∀ j, 14 ≤ j → C.2.2.1 74 j = A.2.2.1 74 j)) ?_ (0, A) (⟨Nat.zero_le _, FX.rf, fun j hj => absurd hj (Nat.not_lt_zero j), fun _ _ => rfl⟩)
    rintro N6 hN7 ⟨i2, C⟩ hi8 ih9
    refine (show Pv _ _ 162 [some (.ref 69), some (.int (Int32.ofNat i2))] [] C Q from ?_)
    obtain ⟨hi2, xc, hc, hc2⟩ := hi8
    have gC := GW.fx gA xc
    refine Pv.iloadS rfl rfl ?_
    refine Pv.lit rfl ?_
    refine Pv.icmp rfl (fun c10 => ?_) (fun c10 => ?_)
    · skip
      replace c10 := (i_le (a := 14) (b := i2) (by omega) (by omega)).mp (of_decide_eq_true c10)
      refine Pv.lit rfl ?_
      refine Pv.istore (lo' := [some (.ref 69), some (.int 0)]) rfl rfl ?_
      refine Pv.lp (ι := Nat × FW) (lof := fun ⟨i3, D⟩ => [some (.ref 69), some (.int (Int32.ofNat i3))]) (Ff := fun ⟨i3, D⟩ => D) (P := fun ⟨i3, D⟩ => (i3 ≤ 12) ∧ (FX (fun q => q = 71) C D) ∧ (∀ j, j < i3 → D.1 71 (124 + j) = C.1 71 (4 + j)) ∧ (∀ j, (j < 124 ∨ 136 ≤ j) → D.1 71 j = C.1 71 j)) ?_ (0, C) (⟨Nat.zero_le _, FX.rf, fun j hj => absurd hj (Nat.not_lt_zero j), fun _ _ => rfl⟩)
      rintro N11 hN12 ⟨i3, D⟩ hi13 ih14
      refine (show Pv _ _ 191 [some (.ref 69), some (.int (Int32.ofNat i3))] [] D Q from ?_)
      obtain ⟨hi3, xd, hd, hd2⟩ := hi13
      have gD := GW.fx gC xd
      refine Pv.iloadS rfl rfl ?_
      refine Pv.lit rfl ?_
      refine Pv.icmp rfl (fun c15 => ?_) (fun c15 => ?_)
      · skip
        replace c15 := (i_le (a := 12) (b := i3) (by omega) (by omega)).mp (of_decide_eq_true c15)
        refine Pv.lit rfl ?_
        refine Pv.istore (lo' := [some (.ref 69), some (.int 0)]) rfl rfl ?_
        refine Pv.lp (ι := Nat × FW) (lof := fun ⟨i4, E⟩ => [some (.ref 69), some (.int (Int32.ofNat i4))]) (Ff := fun ⟨i4, E⟩ => E) (P := fun ⟨i4, E⟩ => (i4 ≤ 8) ∧ (FX (fun q => q = 71) D E) ∧ (∀ j, j < i4 → E.1 71 (172 + j) = D.1 71 (52 + j)) ∧ (∀ j, (j < 172 ∨ 180 ≤ j) → E.1 71 j = D.1 71 j)) ?_ (0, D) (⟨Nat.zero_le _, FX.rf, fun j hj => absurd hj (Nat.not_lt_zero j), fun _ _ => rfl⟩)
        rintro N16 hN17 ⟨i4, E⟩ hi18 ih19
        refine (show Pv _ _ 222 [some (.ref 69), some (.int (Int32.ofNat i4))] [] E Q from ?_)
        obtain ⟨hi4, xe, he, he2⟩ := hi18
        have gE := GW.fx gD xe
        refine Pv.iloadS rfl rfl ?_
        refine Pv.lit rfl ?_
        refine Pv.icmp rfl (fun c20 => ?_) (fun c20 => ?_)
        · skip
          replace c20 := (i_le (a := 8) (b := i4) (by omega) (by omega)).mp (of_decide_eq_true c20)
          refine Pv.aload rfl rfl ?_
          refine Pv.lit rfl ?_
          refine Pv.putI rfl rfl ?_
          refine Pv.aload rfl rfl ?_
          refine Pv.getI (z := F.1 69 19) rfl rfl ((fp_ne (Or.inr (by decide))).trans ((xe.1 69 19 (by decide)).trans ((xd.1 69 19 (by decide)).trans ((xc.1 69 19 (by decide)).trans (xa.1 69 19 (by decide)))))) ?_
          exact Pv.ret rfl (by rw [hQ]; exact ⟨rfl, STE.mk xa (fun j hj => ha j (by omega)) xc (fun j hj => hc j (by omega)) xd (fun j hj => hd j (by omega)) hd2 xe (fun j hj => he j (by omega)) he2⟩)
        · skip
          replace c20 := mt (i_le (a := 8) (b := i4) (by omega) (by omega)).mpr (of_decide_eq_false c20)
          refine Pv.aload rfl rfl ?_
          refine Pv.getR (v := .ref 71) rfl rfl (GW.at (a := 69) (k := 6) (b := 71) gE (by decide)) ?_
          refine Pv.lit rfl ?_
          refine Pv.iload rfl rfl ?_
          refine Pv.bin (z := Int32.ofNat (172 + i4)) rfl (i_add 172 i4) ?_
          refine Pv.aload rfl rfl ?_
          refine Pv.getR (v := .ref 71) rfl rfl (GW.at (a := 69) (k := 6) (b := 71) gE (by decide)) ?_
          refine Pv.lit rfl ?_
          refine Pv.iload rfl rfl ?_
          refine Pv.bin (z := Int32.ofNat (52 + i4)) rfl (i_add 52 i4) ?_
          refine Pv.ald (z := D.1 71 (52 + i4)) rfl (by rw [i_toNat (by omega)]; exact he2 _ (Or.inl (by omega))) ?_
          refine Pv.astk (k := 172 + i4) (z := D.1 71 (52 + i4)) rfl (i_toNat (by omega)) (rfl) ?_
          refine Pv.iinc (y := Int32.ofNat (i4 + 1)) (lo' := [some (.ref 69), some (.int (Int32.ofNat (i4 + 1)))]) rfl rfl (i_add i4 1) rfl ?_
          refine Pv.goto rfl ?_
          exact ih19 (i4 + 1, (fp E 71 (172 + i4) (D.1 71 (52 + i4)))) (⟨by omega, xe.fp rfl, fun j hj => Or.elim (Classical.em (j = i4)) (fun e => by rw [e]; exact fp_eq) (fun e => (fp_ne (Or.inr (by omega))).trans (he j (by omega))), fun j hj => (fp_ne (Or.inr (by omega))).trans (he2 j hj)⟩)
      · skip
        replace c15 := mt (i_le (a := 12) (b := i3) (by omega) (by omega)).mpr (of_decide_eq_false c15)
        refine Pv.aload rfl rfl ?_
        refine Pv.getR (v := .ref 71) rfl rfl (GW.at (a := 69) (k := 6) (b := 71) gD (by decide)) ?_
        refine Pv.lit rfl ?_
        refine Pv.iload rfl rfl ?_
        refine Pv.bin (z := Int32.ofNat (124 + i3)) rfl (i_add 124 i3) ?_
        refine Pv.aload rfl rfl ?_
        refine Pv.getR (v := .ref 71) rfl rfl (GW.at (a := 69) (k := 6) (b := 71) gD (by decide)) ?_
        refine Pv.lit rfl ?_
        refine Pv.iload rfl rfl ?_
        refine Pv.bin (z := Int32.ofNat (4 + i3)) rfl (i_add 4 i3) ?_
        refine Pv.ald (z := C.1 71 (4 + i3)) rfl (by rw [i_toNat (by omega)]; exact hd2 _ (Or.inl (by omega))) ?_
        refine Pv.astk (k := 124 + i3) (z := C.1 71 (4 + i3)) rfl (i_toNat (by omega)) (rfl) ?_
        refine Pv.iinc (y := Int32.ofNat (i3 + 1)) (lo' := [some (.ref 69), some (.int (Int32.ofNat (i3 + 1)))]) rfl rfl (i_add i3 1) rfl ?_
        refine Pv.goto rfl ?_
        exact ih14 (i3 + 1, (fp D 71 (124 + i3) (C.1 71 (4 + i3)))) (⟨by omega, xd.fp rfl, fun j hj => Or.elim (Classical.em (j = i3)) (fun e => by rw [e]; exact fp_eq) (fun e => (fp_ne (Or.inr (by omega))).trans (hd j (by omega))), fun j hj => (fp_ne (Or.inr (by omega))).trans (hd2 j hj)⟩)
    · skip
      replace c10 := mt (i_le (a := 14) (b := i2) (by omega) (by omega)).mpr (of_decide_eq_false c10)
      refine Pv.aload rfl rfl ?_
      refine Pv.getR (v := .ref 74) rfl rfl (GW.at (a := 69) (k := 9) (b := 74) gC (by decide)) ?_
      refine Pv.iload rfl rfl ?_
      refine Pv.aload rfl rfl ?_
      refine Pv.getR (v := .ref 74) rfl rfl (GW.at (a := 69) (k := 9) (b := 74) gC (by decide)) ?_
      refine Pv.lit rfl ?_
      refine Pv.iload rfl rfl ?_
      refine Pv.bin (z := Int32.ofNat (14 + i2)) rfl (i_add 14 i2) ?_
      refine Pv.lald (z := A.2.2.1 74 (14 + i2)) rfl (by rw [i_toNat (by omega)]; exact hc2 _ (by omega)) ?_
      refine Pv.lastk (k := i2) rfl (i_toNat (by omega)) ?_
      refine Pv.iinc (y := Int32.ofNat (i2 + 1)) (lo' := [some (.ref 69), some (.int (Int32.ofNat (i2 + 1)))]) rfl rfl (i_add i2 1) rfl ?_
      refine Pv.goto rfl ?_
      exact ih9 (i2 + 1, (fpl C 74 i2 (A.2.2.1 74 (14 + i2)))) (⟨by omega, xc.fpl rfl, fun j hj => Or.elim (Classical.em (j = i2)) (fun e => by rw [e]; exact fpl_eq) (fun e => (fpl_ne (Or.inr e)).trans (hc j (by omega))), fun j hj => (fpl_ne (Or.inr (by omega))).trans (hc2 j hj)⟩)
  · skip
    replace c5 := mt (i_le (a := 434) (b := i1) (by omega) (by omega)).mpr (of_decide_eq_false c5)
    refine Pv.aload rfl rfl ?_
    refine Pv.getR (v := .ref 71) rfl rfl (GW.at (a := 69) (k := 6) (b := 71) gA (by decide)) ?_
    refine Pv.iload rfl rfl ?_
    refine Pv.iload rfl rfl ?_
    refine Pv.lit rfl ?_
    refine Pv.icmp rfl (fun c21 => ?_) (fun c21 => ?_)
    · skip
      replace c21 := (i_le (a := 120) (b := i1) (by omega) (by omega)).mp (of_decide_eq_true c21)
      refine Pv.lit rfl ?_
      refine Pv.astk (k := i1) (z := 0) rfl (i_toNat (by omega)) (rfl) ?_
      refine Pv.iinc (y := Int32.ofNat (i1 + 1)) (lo' := [some (.ref 69), some (.int (Int32.ofNat (i1 + 1)))]) rfl rfl (i_add i1 1) rfl ?_
      refine Pv.goto rfl ?_
      exact ih4 (i1 + 1, (fp A 71 i1 0)) (⟨by omega, xa.fp rfl, fun j hj => Or.elim (Classical.em (j = i1)) (fun e => by rw [e]; exact fp_eq.trans (if_neg (by omega)).symm) (fun e => (fp_ne (Or.inr e)).trans (ha j (by omega)))⟩)
    · skip
      replace c21 := mt (i_le (a := 120) (b := i1) (by omega) (by omega)).mpr (of_decide_eq_false c21)
      refine Pv.aload rfl rfl ?_
      refine Pv.getR (v := .ref 72) rfl rfl (GW.at (a := 69) (k := 7) (b := 72) gA (by decide)) ?_
      refine Pv.iload rfl rfl ?_
      refine Pv.ald (z := F.1 72 i1) rfl (by rw [i_toNat (by omega)]; exact xa.1 72 _ (by decide)) ?_
      refine Pv.goto rfl ?_
      refine Pv.astk (k := i1) (z := F.1 72 i1) rfl (i_toNat (by omega)) (rfl) ?_
      refine Pv.iinc (y := Int32.ofNat (i1 + 1)) (lo' := [some (.ref 69), some (.int (Int32.ofNat (i1 + 1)))]) rfl rfl (i_add i1 1) rfl ?_
      refine Pv.goto rfl ?_
      exact ih4 (i1 + 1, (fp A 71 i1 (F.1 72 i1))) (⟨by omega, xa.fp rfl, fun j hj => Or.elim (Classical.em (j = i1)) (fun e => by rw [e]; exact fp_eq.trans (if_pos (by omega)).symm) (fun e => (fp_ne (Or.inr e)).trans (ha j (by omega)))⟩)
