set_option maxRecDepth 100000 in
set_option maxHeartbeats 4000000 in
theorem f_beginAs {F : FW} {p : Nat} (hO : O7 F 12) (hp7 : O7 F p) (hp : 40 ≤ p) : Pm Z_X6_beginAs [.ref 12, .ref p] F (fun r F' => r = none ∧ BGF F F' p) := by
  refine Pm.of fun N => ?_
  obtain ⟨Q, hQ⟩ : ∃ Q : Option Value → FW → Prop, Q = (fun r F' => r = none ∧ BGF F F' p) := ⟨_, rfl⟩
  rw [← hQ]
  refine (show Pv (ab_T (L_X6_beginAs Z_X7_amountOf)) N 0 [some (.ref 12), some (.ref p), none] [] F Q from ?_)
  refine Pv.lit rfl ?_
  refine Pv.istore (lo' := [some (.ref 12), some (.ref p), some (.int 0)]) rfl rfl ?_
  refine Pv.lp (ι := Nat × FW) (lof := fun ⟨i1, A⟩ => [some (.ref 12), some (.ref p), some (.int (Int32.ofNat i1))]) (Ff := fun ⟨i1, A⟩ => A) (P := fun ⟨i1, A⟩ => (i1 ≤ 12) ∧ (FX (fun q => 12 ≤ q ∧ q ≤ 19) F A) ∧ (∀ j, j < i1 → A.1 13 j = F.1 (p + 4) (0 * 12 + j)) ∧ (∀ j, j < i1 → A.1 14 j = 0) ∧ (∀ j, j < i1 → A.1 15 j = 0) ∧ (∀ j, j < i1 → A.1 16 j = 0)) ?_ (0, F) (⟨Nat.zero_le _, FX.rf, fun j hj => absurd hj (Nat.not_lt_zero j), fun j hj => absurd hj (Nat.not_lt_zero j), fun j hj => absurd hj (Nat.not_lt_zero j), fun j hj => absurd hj (Nat.not_lt_zero j)⟩)
  rintro N1 hN2 ⟨i1, A⟩ hi3 ih4
  refine (show Pv _ _ 2 [some (.ref 12), some (.ref p), some (.int (Int32.ofNat i1))] [] A Q from ?_)
  obtain ⟨hi1, xa, a3, a4, a5, a6⟩ := hi3
  refine Pv.iloadS rfl rfl ?_
  refine Pv.lit rfl ?_
  refine Pv.icmp rfl (fun c5 => ?_) (fun c5 => ?_)
  · skip
    replace c5 := (i_le (a := 12) (b := i1) (by omega) (by omega)).mp (of_decide_eq_true c5)
    refine Pv.lit rfl ?_
    refine Pv.istore (lo' := [some (.ref 12), some (.ref p), some (.int 0)]) rfl rfl ?_
    refine Pv.lp (ι := Nat × FW) (lof := fun ⟨i2, C⟩ => [some (.ref 12), some (.ref p), some (.int (Int32.ofNat i2))]) (Ff := fun ⟨i2, C⟩ => C) (P := fun ⟨i2, C⟩ => (i2 ≤ 8) ∧ (FX (fun q => q = 17 ∨ q = 18) A C) ∧ (∀ j, j < i2 → C.1 17 j = F.1 (p + 3) j) ∧ (∀ j, j < i2 → C.1 18 j = 0)) ?_ (0, A) (⟨Nat.zero_le _, FX.rf, fun j hj => absurd hj (Nat.not_lt_zero j), fun j hj => absurd hj (Nat.not_lt_zero j)⟩)
    rintro N6 hN7 ⟨i2, C⟩ hi8 ih9
    refine (show Pv _ _ 49 [some (.ref 12), some (.ref p), some (.int (Int32.ofNat i2))] [] C Q from ?_)
    obtain ⟨hi2, xc, c7, c8⟩ := hi8
    have xC : FX (fun q => 12 ≤ q ∧ q ≤ 19) F C := xa.tr (xc.wd fun q (h : q = 17 ∨ q = 18) => by omega)
    refine Pv.iloadS rfl rfl ?_
    refine Pv.lit rfl ?_
    refine Pv.icmp rfl (fun c10 => ?_) (fun c10 => ?_)
    · skip
      replace c10 := (i_le (a := 8) (b := i2) (by omega) (by omega)).mp (of_decide_eq_true c10)
      refine Pv.lit rfl ?_
      refine Pv.istore (lo' := [some (.ref 12), some (.ref p), some (.int 0)]) rfl rfl ?_
      refine Pv.lp (ι := Nat × FW) (lof := fun ⟨i3, D⟩ => [some (.ref 12), some (.ref p), some (.int (Int32.ofNat i3))]) (Ff := fun ⟨i3, D⟩ => D) (P := fun ⟨i3, D⟩ => (i3 ≤ 64) ∧ (FX (fun q => q = 19) C D) ∧ (∀ j, j < i3 → D.1 19 j = 0)) ?_ (0, C) (⟨Nat.zero_le _, FX.rf, fun j hj => absurd hj (Nat.not_lt_zero j)⟩)
      rintro N11 hN12 ⟨i3, D⟩ hi13 ih14
      refine (show Pv _ _ 82 [some (.ref 12), some (.ref p), some (.int (Int32.ofNat i3))] [] D Q from ?_)
      obtain ⟨hi3, xd, d9⟩ := hi13
      have xD : FX (fun q => 12 ≤ q ∧ q ≤ 19) F D := xC.tr (xd.wd fun q (h : q = 19) => by omega)
      refine Pv.iloadS rfl rfl ?_
      refine Pv.lit rfl ?_
      refine Pv.icmp rfl (fun c15 => ?_) (fun c15 => ?_)
      · skip
        replace c15 := (i_le (a := 64) (b := i3) (by omega) (by omega)).mp (of_decide_eq_true c15)
        refine Pv.aload rfl rfl ?_
        refine Pv.lit rfl ?_
        refine Pv.putI rfl rfl ?_
        refine Pv.aload rfl rfl ?_
        refine Pv.lit rfl ?_
        refine Pv.putI rfl rfl ?_
        refine Pv.aload rfl rfl ?_
        refine Pv.lit rfl ?_
        refine Pv.putI rfl rfl ?_
        exact Pv.vret rfl (by rw [hQ]; exact ⟨rfl, (((xD.fp (show 12 ≤ 12 ∧ 12 ≤ 19 by omega)).fp (show 12 ≤ 12 ∧ 12 ≤ 19 by omega)).fp (show 12 ≤ 12 ∧ 12 ≤ 19 by omega)), fun j hj => ⟨(fp_ne (Or.inl (by decide))).trans ((fp_ne (Or.inl (by decide))).trans ((fp_ne (Or.inl (by decide))).trans ((xd.1 13 j (by decide)).trans ((xc.1 13 j (by decide)).trans (a3 j (by omega)))))), (fp_ne (Or.inl (by decide))).trans ((fp_ne (Or.inl (by decide))).trans ((fp_ne (Or.inl (by decide))).trans ((xd.1 14 j (by decide)).trans ((xc.1 14 j (by decide)).trans (a4 j (by omega)))))), (fp_ne (Or.inl (by decide))).trans ((fp_ne (Or.inl (by decide))).trans ((fp_ne (Or.inl (by decide))).trans ((xd.1 15 j (by decide)).trans ((xc.1 15 j (by decide)).trans (a5 j (by omega)))))), (fp_ne (Or.inl (by decide))).trans ((fp_ne (Or.inl (by decide))).trans ((fp_ne (Or.inl (by decide))).trans ((xd.1 16 j (by decide)).trans ((xc.1 16 j (by decide)).trans (a6 j (by omega))))))⟩, fun j hj => ⟨(fp_ne (Or.inl (by decide))).trans ((fp_ne (Or.inl (by decide))).trans ((fp_ne (Or.inl (by decide))).trans ((xd.1 17 j (by decide)).trans (c7 j (by omega))))), (fp_ne (Or.inl (by decide))).trans ((fp_ne (Or.inl (by decide))).trans ((fp_ne (Or.inl (by decide))).trans ((xd.1 18 j (by decide)).trans (c8 j (by omega)))))⟩, fun j hj => (fp_ne (Or.inl (by decide))).trans ((fp_ne (Or.inl (by decide))).trans ((fp_ne (Or.inl (by decide))).trans (d9 j (by omega)))), (fp_ne (Or.inr (by decide))).trans ((fp_ne (Or.inr (by decide))).trans (fp_eq)), (fp_ne (Or.inr (by decide))).trans (fp_eq), fp_eq⟩)
      · skip
        replace c15 := mt (i_le (a := 64) (b := i3) (by omega) (by omega)).mpr (of_decide_eq_false c15)
        refine Pv.aload rfl rfl ?_
        refine Pv.getR (v := .ref 19) rfl rfl ((FX.O7 (P := fun q => 12 ≤ q ∧ q ≤ 19) xD hO) 6 (by decide)) ?_
        refine Pv.iload rfl rfl ?_
        refine Pv.lit rfl ?_
        refine Pv.astk (k := i3) (z := 0) rfl (i_toNat (by omega)) (rfl) ?_
        refine Pv.iinc (y := Int32.ofNat (i3 + 1)) (lo' := [some (.ref 12), some (.ref p), some (.int (Int32.ofNat (i3 + 1)))]) rfl rfl (i_add i3 1) rfl ?_
        refine Pv.goto rfl ?_
        exact ih14 (i3 + 1, (fp D 19 i3 0)) (⟨by omega, xd.fp rfl, fun j hj => Or.elim (Classical.em (j = i3)) (fun e => by rw [e]; exact fp_eq) (fun e => (fp_ne (Or.inr e)).trans (d9 j (by omega)))⟩)
    · skip
      replace c10 := mt (i_le (a := 8) (b := i2) (by omega) (by omega)).mpr (of_decide_eq_false c10)
      refine Pv.aload rfl rfl ?_
      refine Pv.getR (v := .ref 17) rfl rfl ((FX.O7 (P := fun q => 12 ≤ q ∧ q ≤ 19) xC hO) 4 (by decide)) ?_
      refine Pv.iload rfl rfl ?_
      refine Pv.aload rfl rfl ?_
      refine Pv.getR (v := .ref (p + 3)) rfl rfl ((FX.O7 (P := fun q => 12 ≤ q ∧ q ≤ 19) xC hp7) 2 (by decide)) ?_
      refine Pv.iload rfl rfl ?_
      refine Pv.ald (z := F.1 (p + 3) i2) rfl (by rw [i_toNat (by omega)]; exact xC.1 (p + 3) _ (by omega)) ?_
      refine Pv.astk (k := i2) (z := F.1 (p + 3) i2) rfl (i_toNat (by omega)) (rfl) ?_
      refine Pv.aload rfl rfl ?_
      refine Pv.getR (v := .ref 18) rfl rfl ((FX.O7 (P := fun q => 12 ≤ q ∧ q ≤ 19) xC hO) 5 (by decide)) ?_
      refine Pv.iload rfl rfl ?_
      refine Pv.lit rfl ?_
      refine Pv.astk (k := i2) (z := 0) rfl (i_toNat (by omega)) (rfl) ?_
      refine Pv.iinc (y := Int32.ofNat (i2 + 1)) (lo' := [some (.ref 12), some (.ref p), some (.int (Int32.ofNat (i2 + 1)))]) rfl rfl (i_add i2 1) rfl ?_
      refine Pv.goto rfl ?_
      exact ih9 (i2 + 1, (fp (fp C 17 i2 (F.1 (p + 3) i2)) 18 i2 0)) (⟨by omega, (xc.fp (Or.inl rfl)).fp (Or.inr rfl), fun j hj => Or.elim (Classical.em (j = i2)) (fun e => by rw [e]; exact (fp_ne (Or.inl (by decide))).trans (fp_eq)) (fun e => (fp_ne (Or.inl (by decide))).trans ((fp_ne (Or.inr e)).trans (c7 j (by omega)))), fun j hj => Or.elim (Classical.em (j = i2)) (fun e => by rw [e]; exact fp_eq) (fun e => (fp_ne (Or.inr e)).trans ((fp_ne (Or.inl (by decide))).trans (c8 j (by omega))))⟩)
  · skip
    replace c5 := mt (i_le (a := 12) (b := i1) (by omega) (by omega)).mpr (of_decide_eq_false c5)
    refine Pv.aload rfl rfl ?_
    refine Pv.getR (v := .ref 13) rfl rfl ((FX.O7 (P := fun q => 12 ≤ q ∧ q ≤ 19) xa hO) 0 (by decide)) ?_
    refine Pv.iload rfl rfl ?_
    refine Pv.aload rfl rfl ?_
    refine Pv.lit rfl ?_
    refine Pv.iload rfl rfl ?_
    refine Pv.callV (as := [.ref p, .int 0, .int (Int32.ofNat i1)]) (rest := [.int (Int32.ofNat i1), .ref 13]) (Q' := (fun r F' => Pv (ab_T (L_X6_beginAs Z_X7_amountOf)) N1 19 [some (.ref 12), some (.ref p), some (.int (Int32.ofNat i1))] (r.toList ++ [.int (Int32.ofNat i1), .ref 13]) F' Q)) rfl rfl rfl ?_ (fun r F' h => h)
    refine Pm.of fun N17 => ?_
    obtain ⟨Q16, hQ16⟩ : ∃ Qx : Option Value → FW → Prop, Qx = (fun r F' => Pv (ab_T (L_X6_beginAs Z_X7_amountOf)) N1 19 [some (.ref 12), some (.ref p), some (.int (Int32.ofNat i1))] (r.toList ++ [.int (Int32.ofNat i1), .ref 13]) F' Q) := ⟨_, rfl⟩
    rw [← hQ16]
    refine (show Pv (ab_T L_X7_amountOf) N17 0 [some (.ref p), some (.int 0), some (.int (Int32.ofNat i1))] [] A Q16 from ?_)
    refine Pv.aload rfl rfl ?_
    refine Pv.getR (v := .ref (p + 4)) rfl rfl ((FX.O7 (P := fun q => 12 ≤ q ∧ q ≤ 19) xa hp7) 3 (by decide)) ?_
    refine Pv.iload rfl rfl ?_
    refine Pv.lit rfl ?_
    refine Pv.bin (z := Int32.ofNat (0 * 12)) rfl (i_mul 0 12) ?_
    refine Pv.iload rfl rfl ?_
    refine Pv.bin (z := Int32.ofNat ((0 * 12) + i1)) rfl (i_add (0 * 12) i1) ?_
    refine Pv.ald (z := F.1 (p + 4) ((0 * 12) + i1)) rfl (by rw [i_toNat (by omega)]; exact xa.1 (p + 4) _ (by omega)) ?_
    refine Pv.ret rfl ?_
    rw [hQ16]
    refine (show Pv (ab_T (L_X6_beginAs Z_X7_amountOf)) N1 19 [some (.ref 12), some (.ref p), some (.int (Int32.ofNat i1))] [.int (F.1 (p + 4) ((0 * 12) + i1)), .int (Int32.ofNat i1), .ref 13] A Q from ?_)
    refine Pv.astk (k := i1) (z := F.1 (p + 4) ((0 * 12) + i1)) rfl (i_toNat (by omega)) (rfl) ?_
    refine Pv.aload rfl rfl ?_
    refine Pv.getR (v := .ref 14) rfl rfl ((FX.O7 (P := fun q => 12 ≤ q ∧ q ≤ 19) xa hO) 1 (by decide)) ?_
    refine Pv.iload rfl rfl ?_
    refine Pv.lit rfl ?_
    refine Pv.astk (k := i1) (z := 0) rfl (i_toNat (by omega)) (rfl) ?_
    refine Pv.aload rfl rfl ?_
    refine Pv.getR (v := .ref 15) rfl rfl ((FX.O7 (P := fun q => 12 ≤ q ∧ q ≤ 19) xa hO) 2 (by decide)) ?_
    refine Pv.iload rfl rfl ?_
    refine Pv.lit rfl ?_
    refine Pv.astk (k := i1) (z := 0) rfl (i_toNat (by omega)) (rfl) ?_
    refine Pv.aload rfl rfl ?_
    refine Pv.getR (v := .ref 16) rfl rfl ((FX.O7 (P := fun q => 12 ≤ q ∧ q ≤ 19) xa hO) 3 (by decide)) ?_
    refine Pv.iload rfl rfl ?_
    refine Pv.lit rfl ?_
    refine Pv.astk (k := i1) (z := 0) rfl (i_toNat (by omega)) (rfl) ?_
    refine Pv.iinc (y := Int32.ofNat (i1 + 1)) (lo' := [some (.ref 12), some (.ref p), some (.int (Int32.ofNat (i1 + 1)))]) rfl rfl (i_add i1 1) rfl ?_
    refine Pv.goto rfl ?_
    exact ih4 (i1 + 1, (fp (fp (fp (fp A 13 i1 (F.1 (p + 4) ((0 * 12) + i1))) 14 i1 0) 15 i1 0) 16 i1 0)) (⟨by omega, ((((xa.fp (show 12 ≤ 13 ∧ 13 ≤ 19 by omega)).fp (show 12 ≤ 14 ∧ 14 ≤ 19 by omega)).fp (show 12 ≤ 15 ∧ 15 ≤ 19 by omega)).fp (show 12 ≤ 16 ∧ 16 ≤ 19 by omega)), fun j hj => Or.elim (Classical.em (j = i1)) (fun e => by rw [e]; exact (fp_ne (Or.inl (by decide))).trans ((fp_ne (Or.inl (by decide))).trans ((fp_ne (Or.inl (by decide))).trans (fp_eq)))) (fun e => (fp_ne (Or.inl (by decide))).trans ((fp_ne (Or.inl (by decide))).trans ((fp_ne (Or.inl (by decide))).trans ((fp_ne (Or.inr e)).trans (a3 j (by omega)))))), fun j hj => Or.elim (Classical.em (j = i1)) (fun e => by rw [e]; exact (fp_ne (Or.inl (by decide))).trans ((fp_ne (Or.inl (by decide))).trans (fp_eq))) (fun e => (fp_ne (Or.inl (by decide))).trans ((fp_ne (Or.inl (by decide))).trans ((fp_ne (Or.inr e)).trans ((fp_ne (Or.inl (by decide))).trans (a4 j (by omega)))))), fun j hj => Or.elim (Classical.em (j = i1)) (fun e => by rw [e]; exact (fp_ne (Or.inl (by decide))).trans (fp_eq)) (fun e => (fp_ne (Or.inl (by decide))).trans ((fp_ne (Or.inr e)).trans ((fp_ne (Or.inl (by decide))).trans ((fp_ne (Or.inl (by decide))).trans (a5 j (by omega)))))), fun j hj => Or.elim (Classical.em (j = i1)) (fun e => by rw [e]; exact fp_eq) (fun e => (fp_ne (Or.inr e)).trans ((fp_ne (Or.inl (by decide))).trans ((fp_ne (Or.inl (by decide))).trans ((fp_ne (Or.inl (by decide))).trans (a6 j (by omega))))))⟩)
