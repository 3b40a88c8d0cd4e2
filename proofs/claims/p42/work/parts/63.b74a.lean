set_option maxRecDepth 100000 in
set_option maxHeartbeats 4000000 in
theorem q_image_y {F : FW} {k : Nat} (hG : GW F) (hk : k < 2) : Pm Z_X11_image [.ref 69, .int (Int32.ofNat k)] F (fun r F' => r = some (.int 1) ∧ FX (fun q => q = 69 ∨ q = 84 ∨ q = 85 ∨ q = 86) F F' ∧ (∀ j, j < 434 → F'.1 84 (434 * k + j) = F.1 71 j) ∧ (∀ j, j < 434 * k ∨ 434 * k + 434 ≤ j → F'.1 84 j = F.1 84 j) ∧ (∀ j, j ≠ 0 → F'.1 69 j = F.1 69 j) ∧ F'.1 86 k = 1 ∧ (∀ j, j ≠ k → F'.1 86 j = F.1 86 j) ∧ (∀ j, j < 14 → F'.2.2.1 85 (14 * k + j) = F.2.2.1 74 j) ∧ ∀ j, j < 14 * k ∨ 14 * k + 14 ≤ j → F'.2.2.1 85 j = F.2.2.1 85 j) := by
  refine Pm.of fun N => ?_
  obtain ⟨Q, hQ⟩ : ∃ Q : Option Value → FW → Prop, Q = (fun r F' => r = some (.int 1) ∧ FX (fun q => q = 69 ∨ q = 84 ∨ q = 85 ∨ q = 86) F F' ∧ (∀ j, j < 434 → F'.1 84 (434 * k + j) = F.1 71 j) ∧ (∀ j, j < 434 * k ∨ 434 * k + 434 ≤ j → F'.1 84 j = F.1 84 j) ∧ (∀ j, j ≠ 0 → F'.1 69 j = F.1 69 j) ∧ F'.1 86 k = 1 ∧ (∀ j, j ≠ k → F'.1 86 j = F.1 86 j) ∧ (∀ j, j < 14 → F'.2.2.1 85 (14 * k + j) = F.2.2.1 74 j) ∧ ∀ j, j < 14 * k ∨ 14 * k + 14 ≤ j → F'.2.2.1 85 j = F.2.2.1 85 j) := ⟨_, rfl⟩
  rw [← hQ]
  refine (show Pv (ab_T (L_X11_image Z_X11_isIn)) N 0 [some (.ref 69), some (.int (Int32.ofNat k)), none] [] F Q from ?_)
  refine Pv.aload rfl rfl ?_
  refine Pv.lit rfl ?_
  refine Pv.putI rfl rfl ?_
  refine Pv.iload rfl rfl ?_
  refine Pv.lit rfl ?_
  refine Pv.lit rfl ?_
  refine Pv.callI (as := [.int (Int32.ofNat k), .int 0, .int 1]) (rest := []) (z := b2i (decide (0 ≤ (Int32.ofNat k)) && decide ((Int32.ofNat k) ≤ 1))) rfl rfl rfl (q_isIn (Int32.ofNat k) 0 1) ?_
  refine Pv.if0 rfl (fun c1 => ?_) (fun c1 => ?_)
  · skip
    replace c1 : decide (b2i (decide (0 ≤ (Int32.ofNat k)) && decide ((Int32.ofNat k) ≤ 1)) = 0) = false := by simpa using c1
    replace c1 := of_decide_eq_false c1
    replace c1 := b2n.mp c1
    refine Pv.lit rfl ?_
    refine Pv.istore (lo' := [some (.ref 69), some (.int (Int32.ofNat k)), some (.int 0)]) rfl rfl ?_
    refine Pv.lp (ι := Nat × FW) (lof := fun ⟨i, G⟩ => [some (.ref 69), some (.int (Int32.ofNat k)), some (.int (Int32.ofNat i))]) (Ff := fun ⟨i, G⟩ => G) (P := fun ⟨i, G⟩ => (i ≤ 434) ∧ (FX (fun q => q = 69 ∨ q = 84 ∨ q = 85 ∨ q = 86) F G) ∧ (∀ j, j < i → G.1 84 (434 * k + j) = F.1 71 j) ∧ (∀ j, j < 434 * k ∨ 434 * k + 434 ≤ j → G.1 84 j = F.1 84 j) ∧ (∀ j, j ≠ 0 → G.1 69 j = F.1 69 j) ∧ (∀ j, G.1 86 j = F.1 86 j) ∧ (∀ j, G.2.2.1 85 j = F.2.2.1 85 j)) ?_ (0, (fp F 69 0 0)) (⟨Nat.zero_le _, (FX.fp (FX.rf (P := fun q => q = 69 ∨ q = 84 ∨ q = 85 ∨ q = 86)) (Or.inl rfl)), fun j hj => absurd hj (Nat.not_lt_zero j), fun _ _ => fp_ne (Or.inl (by decide)), fun j hj => fp_ne (Or.inr hj), fun _ => fp_ne (Or.inl (by decide)), fun _ => rfl⟩)
    rintro N2 hN3 ⟨i, G⟩ hi4 ih5
    refine (show Pv _ _ 18 [some (.ref 69), some (.int (Int32.ofNat k)), some (.int (Int32.ofNat i))] [] G Q from ?_)
    obtain ⟨hi0, hxG, hA, hB, hC, hD, hE⟩ := hi4
    have hx6 := GW.fx hG hxG
    refine Pv.iloadS rfl rfl ?_
    refine Pv.lit rfl ?_
    refine Pv.icmp rfl (fun c7 => ?_) (fun c7 => ?_)
    · skip
      replace c7 := (i_le (a := 434) (b := i) (by omega) (by omega)).mp (of_decide_eq_true c7)
      refine Pv.lit rfl ?_
      refine Pv.istore (lo' := [some (.ref 69), some (.int (Int32.ofNat k)), some (.int 0)]) rfl rfl ?_
      refine Pv.lp (ι := Nat × FW) (lof := fun ⟨i, G2⟩ => [some (.ref 69), some (.int (Int32.ofNat k)), some (.int (Int32.ofNat i))]) (Ff := fun ⟨i, G2⟩ => G2) (P := fun ⟨i, G2⟩ => (i ≤ 14) ∧ (FX (fun q => q = 69 ∨ q = 84 ∨ q = 85 ∨ q = 86) F G2) ∧ (∀ j, j < 434 → G2.1 84 (434 * k + j) = F.1 71 j) ∧ (∀ j, j < 434 * k ∨ 434 * k + 434 ≤ j → G2.1 84 j = F.1 84 j) ∧ (∀ j, j ≠ 0 → G2.1 69 j = F.1 69 j) ∧ (∀ j, G2.1 86 j = F.1 86 j) ∧ (∀ j, j < i → G2.2.2.1 85 (14 * k + j) = F.2.2.1 74 j) ∧ (∀ j, j < 14 * k ∨ 14 * k + 14 ≤ j → G2.2.2.1 85 j = F.2.2.1 85 j)) ?_ (0, G) (⟨Nat.zero_le _, hxG, fun j hj => hA j (by omega), hB, hC, hD, fun j hj => absurd hj (Nat.not_lt_zero j), fun j _ => hE j⟩)
      rintro N8 hN9 ⟨i, G2⟩ hi10 ih11
      refine (show Pv _ _ 51 [some (.ref 69), some (.int (Int32.ofNat k)), some (.int (Int32.ofNat i))] [] G2 Q from ?_)
      obtain ⟨hi0, hxG2, hA, hB, hC, hD, hE, hH⟩ := hi10
      have hx12 := GW.fx hG hxG2
      refine Pv.iloadS rfl rfl ?_
      refine Pv.lit rfl ?_
      refine Pv.icmp rfl (fun c13 => ?_) (fun c13 => ?_)
      · skip
        replace c13 := (i_le (a := 14) (b := i) (by omega) (by omega)).mp (of_decide_eq_true c13)
        refine Pv.aload rfl rfl ?_
        refine Pv.getR (v := .ref 86) rfl rfl (GW.at (a := 69) (k := 42) (b := 86) hx12 (by decide)) ?_
        refine Pv.iload rfl rfl ?_
        refine Pv.lit rfl ?_
        refine Pv.astk (k := k) (z := 1) rfl (i_toNat (by omega)) (by rfl) ?_
        refine Pv.lit rfl ?_
        exact Pv.zret rfl (by rw [hQ]; exact ⟨rfl, hxG2.fp (Or.inr (Or.inr (Or.inr rfl))), fun j hj => (fp_ne (Or.inl (by decide))).trans (hA j hj), fun j hj => (fp_ne (Or.inl (by decide))).trans (hB j hj), fun j hj => (fp_ne (Or.inl (by decide))).trans (hC j hj), fp_eq, fun j hj => (fp_ne (Or.inr hj)).trans (hD j), fun j hj => hE j (by omega), hH⟩)
      · skip
        replace c13 := mt (i_le (a := 14) (b := i) (by omega) (by omega)).mpr (of_decide_eq_false c13)
        refine Pv.aload rfl rfl ?_
        refine Pv.getR (v := .ref 85) rfl rfl (GW.at (a := 69) (k := 41) (b := 85) hx12 (by decide)) ?_
        refine Pv.lit rfl ?_
        refine Pv.iload rfl rfl ?_
        refine Pv.bin (z := Int32.ofNat (14 * k)) rfl (i_mul 14 k) ?_
        refine Pv.iload rfl rfl ?_
        refine Pv.bin (z := Int32.ofNat ((14 * k) + i)) rfl (i_add (14 * k) i) ?_
        refine Pv.aload rfl rfl ?_
        refine Pv.getR (v := .ref 74) rfl rfl (GW.at (a := 69) (k := 9) (b := 74) hx12 (by decide)) ?_
        refine Pv.iload rfl rfl ?_
        refine Pv.lald (z := F.2.2.1 74 i) rfl (by rw [i_toNat (by omega)]; exact hxG2.2.1 74 _ (by decide)) ?_
        refine Pv.lastk (k := (14 * k) + i) rfl (i_toNat (by omega)) ?_
        refine Pv.iinc (y := Int32.ofNat (i + 1)) (lo' := [some (.ref 69), some (.int (Int32.ofNat k)), some (.int (Int32.ofNat (i + 1)))]) rfl rfl (i_add i 1) rfl ?_
        refine Pv.goto rfl ?_
        exact ih11 (i + 1, (fpl G2 85 ((14 * k) + i) (F.2.2.1 74 i))) (⟨by omega, (FX.fpl hxG2 (Or.inr (Or.inr (Or.inl rfl)))), hA, hB, hC, hD, fun j hj => Or.elim (Classical.em (j = i)) (fun e => by rw [e]; exact fpl_eq) (fun e => (fpl_ne (Or.inr (by omega))).trans (hE j (by omega))), fun j hj => (fpl_ne (Or.inr (by omega))).trans (hH j hj)⟩)
    · skip
      replace c7 := mt (i_le (a := 434) (b := i) (by omega) (by omega)).mpr (of_decide_eq_false c7)
      refine Pv.aload rfl rfl ?_
      refine Pv.getR (v := .ref 84) rfl rfl (GW.at (a := 69) (k := 40) (b := 84) hx6 (by decide)) ?_
      refine Pv.lit rfl ?_
      refine Pv.iload rfl rfl ?_
      refine Pv.bin (z := Int32.ofNat (434 * k)) rfl (i_mul 434 k) ?_
      refine Pv.iload rfl rfl ?_
      refine Pv.bin (z := Int32.ofNat ((434 * k) + i)) rfl (i_add (434 * k) i) ?_
      refine Pv.aload rfl rfl ?_
      refine Pv.getR (v := .ref 71) rfl rfl (GW.at (a := 69) (k := 6) (b := 71) hx6 (by decide)) ?_
      refine Pv.iload rfl rfl ?_
      refine Pv.ald (z := F.1 71 i) rfl (by rw [i_toNat (by omega)]; exact hxG.1 71 _ (by decide)) ?_
      refine Pv.astk (k := (434 * k) + i) (z := F.1 71 i) rfl (i_toNat (by omega)) (rfl) ?_
      refine Pv.iinc (y := Int32.ofNat (i + 1)) (lo' := [some (.ref 69), some (.int (Int32.ofNat k)), some (.int (Int32.ofNat (i + 1)))]) rfl rfl (i_add i 1) rfl ?_
      refine Pv.goto rfl ?_
      exact ih5 (i + 1, (fp G 84 ((434 * k) + i) (F.1 71 i))) (⟨by omega, (FX.fp hxG (Or.inr (Or.inl rfl))), fun j hj => Or.elim (Classical.em (j = i)) (fun e => by rw [e]; exact fp_eq) (fun e => (fp_ne (Or.inr (by omega))).trans (hA j (by omega))), fun j hj => (fp_ne (Or.inr (by omega))).trans (hB j hj), fun j hj => (fp_ne (Or.inl (by decide))).trans (hC j hj), fun j => (fp_ne (Or.inl (by decide))).trans (hD j), hE⟩)
  · skip
    replace c1 : decide (b2i (decide (0 ≤ (Int32.ofNat k)) && decide ((Int32.ofNat k) ≤ 1)) = 0) = true := by simpa using c1
    replace c1 := of_decide_eq_true c1
    replace c1 := b2z.mp c1
    exact absurd ((nd_in2 (n := 2) (m := 1) (x := Int32.ofNat k) rfl (by decide)).symm.trans c1) (by rw [nd_of (by omega) (by decide)]; exact Bool.noConfusion)
set_option maxRecDepth 100000 in
set_option maxHeartbeats 4000000 in
theorem q_image_n {F : FW} {x : Int32} (h : nd 2 x = none) : Pm Z_X11_image [.ref 69, .int x] F (fun r F' => r = some (.int 0) ∧ F' = fp F 69 0 0) := by
  refine Pm.of fun N => ?_
  obtain ⟨Q, hQ⟩ : ∃ Q : Option Value → FW → Prop, Q = (fun r F' => r = some (.int 0) ∧ F' = fp F 69 0 0) := ⟨_, rfl⟩
  rw [← hQ]
  refine (show Pv (ab_T (L_X11_image Z_X11_isIn)) N 0 [some (.ref 69), some (.int x), none] [] F Q from ?_)
  refine Pv.aload rfl rfl ?_
  refine Pv.lit rfl ?_
  refine Pv.putI rfl rfl ?_
  refine Pv.iload rfl rfl ?_
  refine Pv.lit rfl ?_
  refine Pv.lit rfl ?_
  refine Pv.callI (as := [.int x, .int 0, .int 1]) (rest := []) (z := b2i (decide (0 ≤ x) && decide (x ≤ 1))) rfl rfl rfl (q_isIn x 0 1) ?_
  refine Pv.if0 rfl (fun c1 => ?_) (fun c1 => ?_)
  · skip
    replace c1 : decide (b2i (decide (0 ≤ x) && decide (x ≤ 1)) = 0) = false := by simpa using c1
    replace c1 := of_decide_eq_false c1
    replace c1 := b2n.mp c1
    exact absurd ((nd_in2 (n := 2) (m := 1) (x := x) rfl (by decide)).symm.trans c1) (by rw [h]; decide)
  · skip
    replace c1 : decide (b2i (decide (0 ≤ x) && decide (x ≤ 1)) = 0) = true := by simpa using c1
    replace c1 := of_decide_eq_true c1
    replace c1 := b2z.mp c1
    refine Pv.lit rfl ?_
    exact Pv.zret rfl (by rw [hQ]; exact ⟨rfl, rfl⟩)
set_option maxRecDepth 100000 in
set_option maxHeartbeats 4000000 in
theorem q_restore_y {F : FW} {k : Nat} {b : Int32} (hG : GW F) (hk : k < 2) (hb : F.1 86 k = b) (hb1 : ¬ b = 0) : Pm Z_X11_restore [.ref 69, .int (Int32.ofNat k)] F (fun r F' => r = some (.int 1) ∧ FX (fun q => q = 69 ∨ q = 71 ∨ q = 74) F F' ∧ (∀ j, j < 434 → F'.1 71 j = F.1 84 (434 * k + j)) ∧ (∀ j, j ≠ 0 → j ≠ 25 → F'.1 69 j = F.1 69 j) ∧ F'.1 69 25 = 0 ∧ (∀ j, j < 14 → F'.2.2.1 74 j = F.2.2.1 85 (14 * k + j)) ∧ ∀ j, 14 ≤ j → F'.2.2.1 74 j = F.2.2.1 74 j) := by
  refine Pm.of fun N => ?_
  obtain ⟨Q, hQ⟩ : ∃ Q : Option Value → FW → Prop, Q = (fun r F' => r = some (.int 1) ∧ FX (fun q => q = 69 ∨ q = 71 ∨ q = 74) F F' ∧ (∀ j, j < 434 → F'.1 71 j = F.1 84 (434 * k + j)) ∧ (∀ j, j ≠ 0 → j ≠ 25 → F'.1 69 j = F.1 69 j) ∧ F'.1 69 25 = 0 ∧ (∀ j, j < 14 → F'.2.2.1 74 j = F.2.2.1 85 (14 * k + j)) ∧ ∀ j, 14 ≤ j → F'.2.2.1 74 j = F.2.2.1 74 j) := ⟨_, rfl⟩
  rw [← hQ]
  refine (show Pv (ab_T (L_X11_restore Z_X11_isIn)) N 0 [some (.ref 69), some (.int (Int32.ofNat k)), none] [] F Q from ?_)
  refine Pv.aload rfl rfl ?_
  refine Pv.lit rfl ?_
  refine Pv.putI rfl rfl ?_
  refine Pv.iload rfl rfl ?_
  refine Pv.lit rfl ?_
  refine Pv.lit rfl ?_
  refine Pv.callI (as := [.int (Int32.ofNat k), .int 0, .int 1]) (rest := []) (z := b2i (decide (0 ≤ (Int32.ofNat k)) && decide ((Int32.ofNat k) ≤ 1))) rfl rfl rfl (q_isIn (Int32.ofNat k) 0 1) ?_
  refine Pv.if0 rfl (fun c1 => ?_) (fun c1 => ?_)
  · skip
    replace c1 := of_decide_eq_true c1
    replace c1 := b2z.mp c1
    exact absurd ((nd_in2 (n := 2) (m := 1) (x := Int32.ofNat k) rfl (by decide)).symm.trans c1) (by rw [nd_of (by omega) (by decide)]; exact Bool.noConfusion)
  · skip
    replace c1 := of_decide_eq_false c1
    replace c1 := b2n.mp c1
    refine Pv.aload rfl rfl ?_
    refine Pv.getR (v := .ref 86) rfl rfl (GW.at (a := 69) (k := 42) (b := 86) hG (by decide)) ?_
    refine Pv.iload rfl rfl ?_
    refine Pv.ald (z := b) rfl (by rw [i_toNat (by omega)]; exact (fp_ne (Or.inl (by decide))).trans (hb)) ?_
    refine Pv.if0 rfl (fun c2 => ?_) (fun c2 => ?_)
    · skip
      replace c2 : decide (b = 0) = false := by simpa using c2
      replace c2 := of_decide_eq_false c2
      refine Pv.lit rfl ?_
      refine Pv.istore (lo' := [some (.ref 69), some (.int (Int32.ofNat k)), some (.int 0)]) rfl rfl ?_
      refine Pv.lp (ι := Nat × FW) (lof := fun ⟨i, G⟩ => [some (.ref 69), some (.int (Int32.ofNat k)), some (.int (Int32.ofNat i))]) (Ff := fun ⟨i, G⟩ => G) (P := fun ⟨i, G⟩ => (i ≤ 434) ∧ (FX (fun q => q = 69 ∨ q = 71 ∨ q = 74) F G) ∧ (∀ j, j < i → G.1 71 j = F.1 84 (434 * k + j)) ∧ (∀ j, j ≠ 0 → G.1 69 j = F.1 69 j) ∧ (∀ j, G.2.2.1 74 j = F.2.2.1 74 j)) ?_ (0, (fp F 69 0 0)) (⟨Nat.zero_le _, (FX.fp (FX.rf (P := fun q => q = 69 ∨ q = 71 ∨ q = 74)) (Or.inl rfl)), fun j hj => absurd hj (Nat.not_lt_zero j), fun j hj => fp_ne (Or.inr hj), fun _ => rfl⟩)
      rintro N3 hN4 ⟨i, G⟩ hi5 ih6
      refine (show Pv _ _ 27 [some (.ref 69), some (.int (Int32.ofNat k)), some (.int (Int32.ofNat i))] [] G Q from ?_)
      obtain ⟨hi0, hxG, hA, hC, hE⟩ := hi5
      have hx7 := GW.fx hG hxG
      refine Pv.iloadS rfl rfl ?_
      refine Pv.lit rfl ?_
      refine Pv.icmp rfl (fun c8 => ?_) (fun c8 => ?_)
      · skip
        replace c8 := (i_le (a := 434) (b := i) (by omega) (by omega)).mp (of_decide_eq_true c8)
        refine Pv.lit rfl ?_
        refine Pv.istore (lo' := [some (.ref 69), some (.int (Int32.ofNat k)), some (.int 0)]) rfl rfl ?_
        refine Pv.lp (ι := Nat × FW) (lof := fun ⟨i, G2⟩ => [some (.ref 69), some (.int (Int32.ofNat k)), some (.int (Int32.ofNat i))]) (Ff := fun ⟨i, G2⟩ => G2) (P := fun ⟨i, G2⟩ => (i ≤ 14) ∧ (FX (fun q => q = 69 ∨ q = 71 ∨ q = 74) F G2) ∧ (∀ j, j < 434 → G2.1 71 j = F.1 84 (434 * k + j)) ∧ (∀ j, j ≠ 0 → G2.1 69 j = F.1 69 j) ∧ (∀ j, j < i → G2.2.2.1 74 j = F.2.2.1 85 (14 * k + j)) ∧ (∀ j, 14 ≤ j → G2.2.2.1 74 j = F.2.2.1 74 j)) ?_ (0, G) (⟨Nat.zero_le _, hxG, fun j hj => hA j (by omega), hC, fun j hj => absurd hj (Nat.not_lt_zero j), fun j _ => hE j⟩)
        rintro N9 hN10 ⟨i, G2⟩ hi11 ih12
        refine (show Pv _ _ 60 [some (.ref 69), some (.int (Int32.ofNat k)), some (.int (Int32.ofNat i))] [] G2 Q from ?_)
        obtain ⟨hi0, hxG2, hA, hC, hE, hH⟩ := hi11
        have hx13 := GW.fx hG hxG2
        refine Pv.iloadS rfl rfl ?_
        refine Pv.lit rfl ?_
        refine Pv.icmp rfl (fun c14 => ?_) (fun c14 => ?_)
        · skip
          replace c14 := (i_le (a := 14) (b := i) (by omega) (by omega)).mp (of_decide_eq_true c14)
          refine Pv.aload rfl rfl ?_
          refine Pv.lit rfl ?_
          refine Pv.putI rfl rfl ?_
          refine Pv.lit rfl ?_
          exact Pv.zret rfl (by rw [hQ]; exact ⟨rfl, hxG2.fp (Or.inl rfl), fun j hj => (fp_ne (Or.inl (by decide))).trans (hA j hj), fun j h1 h2 => (fp_ne (Or.inr h2)).trans (hC j h1), fp_eq, fun j hj => hE j (by omega), hH⟩)
        · skip
          replace c14 := mt (i_le (a := 14) (b := i) (by omega) (by omega)).mpr (of_decide_eq_false c14)
          refine Pv.aload rfl rfl ?_
          refine Pv.getR (v := .ref 74) rfl rfl (GW.at (a := 69) (k := 9) (b := 74) hx13 (by decide)) ?_
          refine Pv.iload rfl rfl ?_
          refine Pv.aload rfl rfl ?_
          refine Pv.getR (v := .ref 85) rfl rfl (GW.at (a := 69) (k := 41) (b := 85) hx13 (by decide)) ?_
          refine Pv.lit rfl ?_
          refine Pv.iload rfl rfl ?_
          refine Pv.bin (z := Int32.ofNat (14 * k)) rfl (i_mul 14 k) ?_
          refine Pv.iload rfl rfl ?_
          refine Pv.bin (z := Int32.ofNat ((14 * k) + i)) rfl (i_add (14 * k) i) ?_
          refine Pv.lald (z := F.2.2.1 85 ((14 * k) + i)) rfl (by rw [i_toNat (by omega)]; exact hxG2.2.1 85 _ (by decide)) ?_
          refine Pv.lastk (k := i) rfl (i_toNat (by omega)) ?_
          refine Pv.iinc (y := Int32.ofNat (i + 1)) (lo' := [some (.ref 69), some (.int (Int32.ofNat k)), some (.int (Int32.ofNat (i + 1)))]) rfl rfl (i_add i 1) rfl ?_
          refine Pv.goto rfl ?_
          exact ih12 (i + 1, (fpl G2 74 i (F.2.2.1 85 ((14 * k) + i)))) (⟨by omega, (FX.fpl hxG2 (Or.inr (Or.inr rfl))), hA, hC, fun j hj => Or.elim (Classical.em (j = i)) (fun e => by rw [e]; exact fpl_eq) (fun e => (fpl_ne (Or.inr (by omega))).trans (hE j (by omega))), fun j hj => (fpl_ne (Or.inr (by omega))).trans (hH j hj)⟩)
      · skip
        replace c8 := mt (i_le (a := 434) (b := i) (by omega) (by omega)).mpr (of_decide_eq_false c8)
        refine Pv.aload rfl rfl ?_
        refine Pv.getR (v := .ref 71) rfl rfl (GW.at (a := 69) (k := 6) (b := 71) hx7 (by decide)) ?_
        refine Pv.iload rfl rfl ?_
        refine Pv.aload rfl rfl ?_
        refine Pv.getR (v := .ref 84) rfl rfl (GW.at (a := 69) (k := 40) (b := 84) hx7 (by decide)) ?_
        refine Pv.lit rfl ?_
        refine Pv.iload rfl rfl ?_
        refine Pv.bin (z := Int32.ofNat (434 * k)) rfl (i_mul 434 k) ?_
        refine Pv.iload rfl rfl ?_
        refine Pv.bin (z := Int32.ofNat ((434 * k) + i)) rfl (i_add (434 * k) i) ?_
        refine Pv.ald (z := F.1 84 ((434 * k) + i)) rfl (by rw [i_toNat (by omega)]; exact hxG.1 84 _ (by decide)) ?_
        refine Pv.astk (k := i) (z := F.1 84 ((434 * k) + i)) rfl (i_toNat (by omega)) (rfl) ?_
        refine Pv.iinc (y := Int32.ofNat (i + 1)) (lo' := [some (.ref 69), some (.int (Int32.ofNat k)), some (.int (Int32.ofNat (i + 1)))]) rfl rfl (i_add i 1) rfl ?_
        refine Pv.goto rfl ?_
        exact ih6 (i + 1, (fp G 71 i (F.1 84 ((434 * k) + i)))) (⟨by omega, (FX.fp hxG (Or.inr (Or.inl rfl))), fun j hj => Or.elim (Classical.em (j = i)) (fun e => by rw [e]; exact fp_eq) (fun e => (fp_ne (Or.inr (by omega))).trans (hA j (by omega))), fun j hj => (fp_ne (Or.inl (by decide))).trans (hC j hj), hE⟩)
    · skip
      replace c2 : decide (b = 0) = true := by simpa using c2
      replace c2 := of_decide_eq_true c2
      exact absurd c2 hb1
set_option maxRecDepth 100000 in
set_option maxHeartbeats 4000000 in
theorem q_restore_z {F : FW} {k : Nat} {b : Int32} (hG : GW F) (hk : k < 2) (hb : F.1 86 k = b) (hb0 : b = 0) : Pm Z_X11_restore [.ref 69, .int (Int32.ofNat k)] F (fun r F' => r = some (.int 0) ∧ F' = fp F 69 0 0) := by
  refine Pm.of fun N => ?_
  obtain ⟨Q, hQ⟩ : ∃ Q : Option Value → FW → Prop, Q = (fun r F' => r = some (.int 0) ∧ F' = fp F 69 0 0) := ⟨_, rfl⟩
  rw [← hQ]
  refine (show Pv (ab_T (L_X11_restore Z_X11_isIn)) N 0 [some (.ref 69), some (.int (Int32.ofNat k)), none] [] F Q from ?_)
  refine Pv.aload rfl rfl ?_
  refine Pv.lit rfl ?_
  refine Pv.putI rfl rfl ?_
  refine Pv.iload rfl rfl ?_
  refine Pv.lit rfl ?_
  refine Pv.lit rfl ?_
  refine Pv.callI (as := [.int (Int32.ofNat k), .int 0, .int 1]) (rest := []) (z := b2i (decide (0 ≤ (Int32.ofNat k)) && decide ((Int32.ofNat k) ≤ 1))) rfl rfl rfl (q_isIn (Int32.ofNat k) 0 1) ?_
  refine Pv.if0 rfl (fun c1 => ?_) (fun c1 => ?_)
  · skip
    replace c1 := of_decide_eq_true c1
    replace c1 := b2z.mp c1
    exact absurd ((nd_in2 (n := 2) (m := 1) (x := Int32.ofNat k) rfl (by decide)).symm.trans c1) (by rw [nd_of (by omega) (by decide)]; exact Bool.noConfusion)
  · skip
    replace c1 := of_decide_eq_false c1
    replace c1 := b2n.mp c1
    refine Pv.aload rfl rfl ?_
    refine Pv.getR (v := .ref 86) rfl rfl (GW.at (a := 69) (k := 42) (b := 86) hG (by decide)) ?_
    refine Pv.iload rfl rfl ?_
    refine Pv.ald (z := b) rfl (by rw [i_toNat (by omega)]; exact (fp_ne (Or.inl (by decide))).trans (hb)) ?_
    refine Pv.if0 rfl (fun c2 => ?_) (fun c2 => ?_)
    · skip
      replace c2 : decide (b = 0) = false := by simpa using c2
      replace c2 := of_decide_eq_false c2
      exact absurd hb0 c2
    · skip
      replace c2 : decide (b = 0) = true := by simpa using c2
      replace c2 := of_decide_eq_true c2
      refine Pv.lit rfl ?_
      exact Pv.zret rfl (by rw [hQ]; exact ⟨rfl, rfl⟩)
set_option maxRecDepth 100000 in
set_option maxHeartbeats 4000000 in
theorem q_restore_n {F : FW} {x : Int32} (h : nd 2 x = none) : Pm Z_X11_restore [.ref 69, .int x] F (fun r F' => r = some (.int 0) ∧ F' = fp F 69 0 0) := by
  refine Pm.of fun N => ?_
  obtain ⟨Q, hQ⟩ : ∃ Q : Option Value → FW → Prop, Q = (fun r F' => r = some (.int 0) ∧ F' = fp F 69 0 0) := ⟨_, rfl⟩
  rw [← hQ]
  refine (show Pv (ab_T (L_X11_restore Z_X11_isIn)) N 0 [some (.ref 69), some (.int x), none] [] F Q from ?_)
  refine Pv.aload rfl rfl ?_
  refine Pv.lit rfl ?_
  refine Pv.putI rfl rfl ?_
  refine Pv.iload rfl rfl ?_
  refine Pv.lit rfl ?_
  refine Pv.lit rfl ?_
  refine Pv.callI (as := [.int x, .int 0, .int 1]) (rest := []) (z := b2i (decide (0 ≤ x) && decide (x ≤ 1))) rfl rfl rfl (q_isIn x 0 1) ?_
  refine Pv.if0 rfl (fun c1 => ?_) (fun c1 => ?_)
  · skip
    replace c1 := of_decide_eq_true c1
    replace c1 := b2z.mp c1
    refine Pv.lit rfl ?_
    exact Pv.zret rfl (by rw [hQ]; exact ⟨rfl, rfl⟩)
  · skip
    replace c1 := of_decide_eq_false c1
    replace c1 := b2n.mp c1
    exact absurd ((nd_in2 (n := 2) (m := 1) (x := x) rfl (by decide)).symm.trans c1) (by rw [h]; decide)
