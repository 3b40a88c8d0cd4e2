set_option maxRecDepth 100000 in
set_option maxHeartbeats 4000000 in
theorem o_movePrices {F : FW} {t : Nat} {T : St} {S : Sh} {f : Nat → Int32} (hG : GW F) (ht : F.2.1 0 13 = .ref t) (hT : TR F t T) (hA : SHR F 20 (t_m T) S) (hf : AR F 42 12 f) (j0 : t = 45 ∨ t = 53) : Pm Z_X10_movePrices [.ref 0] F (fun r F' => r = some (.int (b2i (m_pM T S f (2 * t_g T)))) ∧ FX (fun q => q = 42) F F' ∧ AR F' 42 12 (m_pI T S f (2 * t_g T))) := by
  refine Pm.of fun N => ?_
  obtain ⟨Q, hQ⟩ : ∃ Q : Option Value → FW → Prop, Q = (fun r F' => r = some (.int (b2i (m_pM T S f (2 * t_g T)))) ∧ FX (fun q => q = 42) F F' ∧ AR F' 42 12 (m_pI T S f (2 * t_g T))) := ⟨_, rfl⟩
  rw [← hQ]
  have b5 := hT.gb
  refine (show Pv (ab_T (L_X10_movePrices Z_X7_amountOf)) N 0 [some (.ref 0), none, none, none] [] F Q from ?_)
  refine Pv.lit rfl ?_
  refine Pv.istore (lo' := [some (.ref 0), some (.int 0), none, none]) rfl rfl ?_
  refine Pv.lit rfl ?_
  refine Pv.istore (lo' := [some (.ref 0), some (.int 0), some (.int 0), none]) rfl rfl ?_
  refine Pv.lp (ι := Nat × Int32 × FW × (Option Value)) (lof := fun ⟨k, b, G, o1⟩ => [some (.ref 0), some (.int b), some (.int (Int32.ofNat k)), o1]) (Ff := fun ⟨k, b, G, o1⟩ => G) (P := fun ⟨k, b, G, o1⟩ => (k ≤ 2 * t_g T) ∧ (FX (fun q => q = 42) F G) ∧ (AR G 42 12 (m_pI T S f k)) ∧ (b = b2i (m_pM T S f k))) ?_ (0, 0, F, none) (⟨Nat.zero_le _, FX.rf, hf, rfl⟩)
  rintro N2 hN3 ⟨k, b, G, o1⟩ hi4 ih5
  refine (show Pv _ _ 4 [some (.ref 0), some (.int b), some (.int (Int32.ofNat k)), o1] [] G Q from ?_)
  obtain ⟨hk, hxG, hP, hm⟩ := hi4
  have hx6 := hT.fx (P := fun q => q = 42) hxG (fun q h1 h2 (c : q = 42) => by omega)
  have hx7 := hA.fx (P := fun q => q = 42) hxG (fun q h1 h2 (c : q = 42) => by omega)
  have hx8 := hG.fx (P := fun q => q = 42) hxG
  have hr0 : G.2.1 0 13 = .ref t := by rw [hxG.2.2.1]; exact ht
  refine Pv.iloadS rfl rfl ?_
  refine Pv.lit rfl ?_
  refine Pv.aload rfl rfl ?_
  refine Pv.getR (v := .ref t) rfl rfl (hr0) ?_
  refine Pv.getI (z := Int32.ofNat (t_g T)) rfl rfl (hx6.g) ?_
  refine Pv.bin (z := Int32.ofNat (2 * (t_g T))) rfl (i_mul 2 (t_g T)) ?_
  refine Pv.icmp rfl (fun c9 => ?_) (fun c9 => ?_)
  · skip
    replace c9 := (i_le (a := 2 * (t_g T)) (b := k) (by omega) (by omega)).mp (of_decide_eq_true c9)
    refine Pv.iload rfl rfl ?_
    exact Pv.zret rfl (by rw [hQ]; exact ⟨by rw [hm, show k = 2 * t_g T by omega], hxG, hP.eq (congrArg (m_pI T S f) (by omega))⟩)
  · skip
    replace c9 := mt (i_le (a := 2 * (t_g T)) (b := k) (by omega) (by omega)).mpr (of_decide_eq_false c9)
    refine Pv.aload rfl rfl ?_
    refine Pv.getR (v := .ref t) rfl rfl (hr0) ?_
    refine Pv.lit rfl ?_
    refine Pv.iload rfl rfl ?_
    refine Pv.callVI (as := [.ref t, .int 1, .int (Int32.ofNat k)]) (rest := []) (z := t_a T (1 * 12 + k)) rfl rfl rfl (f_amountOf (s := 1) (k := k) hx6 (by omega)) ?_
    refine Pv.istore (lo' := [some (.ref 0), some (.int b), some (.int (Int32.ofNat k)), some (.int (t_a T (1 * 12 + k)))]) rfl rfl ?_
    refine Pv.aload rfl rfl ?_
    refine Pv.getR (v := .ref 20) rfl rfl (GW.at (a := 0) (k := 5) (b := 20) hx8 (by decide)) ?_
    refine Pv.getR (v := .ref 21) rfl rfl (hx7.o 0 (by decide)) ?_
    refine Pv.iload rfl rfl ?_
    refine Pv.ald (z := h_s S k) rfl (by rw [i_toNat (by omega)]; exact hx7.s _ (by omega)) ?_
    refine Pv.iload rfl rfl ?_
    refine Pv.icmp rfl (fun c10 => ?_) (fun c10 => ?_)
    · skip
      replace c10 := of_decide_eq_true c10
      refine Pv.aload rfl rfl ?_
      refine Pv.getR (v := .ref 20) rfl rfl (GW.at (a := 0) (k := 5) (b := 20) hx8 (by decide)) ?_
      refine Pv.getR (v := .ref 21) rfl rfl (hx7.o 0 (by decide)) ?_
      refine Pv.iload rfl rfl ?_
      refine Pv.ald (z := h_s S k) rfl (by rw [i_toNat (by omega)]; exact hx7.s _ (by omega)) ?_
      refine Pv.iload rfl rfl ?_
      refine Pv.icmp rfl (fun c11 => ?_) (fun c11 => ?_)
      · skip
        replace c11 := of_decide_eq_true c11
        refine Pv.iinc (y := Int32.ofNat (k + 1)) (lo' := [some (.ref 0), some (.int b), some (.int (Int32.ofNat (k + 1))), some (.int (t_a T (1 * 12 + k)))]) rfl rfl (i_add k 1) rfl ?_
        refine Pv.goto rfl ?_
        exact ih5 (k + 1, b, G, (some (.int (t_a T (1 * 12 + k))))) (⟨by omega, hxG, (hP).eq (((if_neg (Int32.not_lt.mpr c10)).trans (if_neg (fun q => Int32.not_le.mpr q.1 c11))).symm), by show _ = b2i (m_pM T S f k || (decide (h_s S k < t_a T (1 * 12 + k)) || (decide (t_a T (1 * 12 + k) < h_s S k) && decide (0 < m_pI T S f k k)))); rw [decide_eq_false (Int32.not_lt.mpr c10), decide_eq_false (Int32.not_lt.mpr c11), Bool.false_and, Bool.or_false, Bool.or_false]; exact hm⟩)
      · skip
        replace c11 := of_decide_eq_false c11
        refine Pv.aload rfl rfl ?_
        refine Pv.getR (v := .ref 42) rfl rfl (GW.at (a := 0) (k := 10) (b := 42) hx8 (by decide)) ?_
        refine Pv.iload rfl rfl ?_
        refine Pv.ald (z := (m_pI T S f k) k) rfl (by rw [i_toNat (by omega)]; exact hP _ (by omega)) ?_
        refine Pv.if0 rfl (fun c12 => ?_) (fun c12 => ?_)
        · skip
          replace c12 := of_decide_eq_true c12
          refine Pv.iinc (y := Int32.ofNat (k + 1)) (lo' := [some (.ref 0), some (.int b), some (.int (Int32.ofNat (k + 1))), some (.int (t_a T (1 * 12 + k)))]) rfl rfl (i_add k 1) rfl ?_
          refine Pv.goto rfl ?_
          exact ih5 (k + 1, b, G, (some (.int (t_a T (1 * 12 + k))))) (⟨by omega, hxG, (hP).eq (((if_neg (Int32.not_lt.mpr c10)).trans (if_neg (fun q => Int32.not_le.mpr q.2 c12))).symm), by show _ = b2i (m_pM T S f k || (decide (h_s S k < t_a T (1 * 12 + k)) || (decide (t_a T (1 * 12 + k) < h_s S k) && decide (0 < m_pI T S f k k)))); rw [decide_eq_false (Int32.not_lt.mpr c10), decide_eq_false (Int32.not_lt.mpr c12), Bool.and_false, Bool.or_false, Bool.or_false]; exact hm⟩)
        · skip
          replace c12 := of_decide_eq_false c12
          refine Pv.aload rfl rfl ?_
          refine Pv.getR (v := .ref 42) rfl rfl (GW.at (a := 0) (k := 10) (b := 42) hx8 (by decide)) ?_
          refine Pv.iload rfl rfl ?_
          refine Pv.dup2 rfl ?_
          refine Pv.ald (z := (m_pI T S f k) k) rfl (by rw [i_toNat (by omega)]; exact hP _ (by omega)) ?_
          refine Pv.lit rfl ?_
          refine Pv.bin (z := ((m_pI T S f k) k) - 1) rfl (rfl) ?_
          refine Pv.astk (k := k) (z := ((m_pI T S f k) k) - 1) rfl (i_toNat (by omega)) (rfl) ?_
          refine Pv.lit rfl ?_
          refine Pv.istore (lo' := [some (.ref 0), some (.int 1), some (.int (Int32.ofNat k)), some (.int (t_a T (1 * 12 + k)))]) rfl rfl ?_
          refine Pv.iinc (y := Int32.ofNat (k + 1)) (lo' := [some (.ref 0), some (.int 1), some (.int (Int32.ofNat (k + 1))), some (.int (t_a T (1 * 12 + k)))]) rfl rfl (i_add k 1) rfl ?_
          refine Pv.goto rfl ?_
          exact ih5 (k + 1, 1, (fp G 42 k (((m_pI T S f k) k) - 1)), (some (.int (t_a T (1 * 12 + k))))) (⟨by omega, (hxG).fp (show 42 = 42 by omega), ((hP).up).eq (((if_neg (Int32.not_lt.mpr c10)).trans (if_pos ⟨Int32.not_le.mp c11, Int32.not_le.mp c12⟩)).symm), by show _ = b2i (m_pM T S f k || (decide (h_s S k < t_a T (1 * 12 + k)) || (decide (t_a T (1 * 12 + k) < h_s S k) && decide (0 < m_pI T S f k k)))); rw [decide_eq_true (Int32.not_le.mp c11), decide_eq_true (Int32.not_le.mp c12), Bool.and_true, Bool.or_true, Bool.or_true]; rfl⟩)
    · skip
      replace c10 := of_decide_eq_false c10
      refine Pv.aload rfl rfl ?_
      refine Pv.getR (v := .ref 42) rfl rfl (GW.at (a := 0) (k := 10) (b := 42) hx8 (by decide)) ?_
      refine Pv.iload rfl rfl ?_
      refine Pv.dup2 rfl ?_
      refine Pv.ald (z := (m_pI T S f k) k) rfl (by rw [i_toNat (by omega)]; exact hP _ (by omega)) ?_
      refine Pv.lit rfl ?_
      refine Pv.bin (z := ((m_pI T S f k) k) + 1) rfl (rfl) ?_
      refine Pv.astk (k := k) (z := ((m_pI T S f k) k) + 1) rfl (i_toNat (by omega)) (rfl) ?_
      refine Pv.lit rfl ?_
      refine Pv.istore (lo' := [some (.ref 0), some (.int 1), some (.int (Int32.ofNat k)), some (.int (t_a T (1 * 12 + k)))]) rfl rfl ?_
      refine Pv.goto rfl ?_
      refine Pv.iinc (y := Int32.ofNat (k + 1)) (lo' := [some (.ref 0), some (.int 1), some (.int (Int32.ofNat (k + 1))), some (.int (t_a T (1 * 12 + k)))]) rfl rfl (i_add k 1) rfl ?_
      refine Pv.goto rfl ?_
      exact ih5 (k + 1, 1, (fp G 42 k (((m_pI T S f k) k) + 1)), (some (.int (t_a T (1 * 12 + k))))) (⟨by omega, (hxG).fp (show 42 = 42 by omega), ((hP).up).eq ((if_pos (Int32.not_le.mp c10)).symm), by show _ = b2i (m_pM T S f k || (decide (h_s S k < t_a T (1 * 12 + k)) || (decide (t_a T (1 * 12 + k) < h_s S k) && decide (0 < m_pI T S f k k)))); rw [decide_eq_true (Int32.not_le.mp c10), Bool.true_or, Bool.or_true]; rfl⟩)
set_option maxRecDepth 100000 in
set_option maxHeartbeats 4000000 in
theorem o_prices {F : FW} {t : Nat} {T : St} {S : Sh} (hG : GW F) (ht : F.2.1 0 13 = .ref t) (hT : TR F t T) (hS : SHR F 12 (t_m T) S) (j0 : t = 45 ∨ t = 53) : Pm Z_X10_prices [.ref 0] F (fun r F' => r = some (.int (Int32.ofNat (m_rounds T S))) ∧ FX (fun q => q = 0 ∨ (7 ≤ q ∧ q ≤ 9) ∨ (20 ≤ q ∧ q ≤ 27) ∨ q = 42) F F' ∧ (∀ k, k ≠ 17 → F'.1 0 k = F.1 0 k) ∧ F'.1 0 17 = Int32.ofNat (t_g T) ∧ AR F' 42 12 (m_row T S (m_rounds T S))) := by
  refine Pm.of fun N => ?_
  obtain ⟨Q, hQ⟩ : ∃ Q : Option Value → FW → Prop, Q = (fun r F' => r = some (.int (Int32.ofNat (m_rounds T S))) ∧ FX (fun q => q = 0 ∨ (7 ≤ q ∧ q ≤ 9) ∨ (20 ≤ q ∧ q ≤ 27) ∨ q = 42) F F' ∧ (∀ k, k ≠ 17 → F'.1 0 k = F.1 0 k) ∧ F'.1 0 17 = Int32.ofNat (t_g T) ∧ AR F' 42 12 (m_row T S (m_rounds T S))) := ⟨_, rfl⟩
  rw [← hQ]
  have b3 := hT.mb
  have b4 := hT.nb
  have b5 := hT.gb
  have b6 := m_from_lt S
  have b7 := hS.db
  refine (show Pv (ab_T (L_X10_prices Z_X6_copyFrom Z_X10_movePrices Z_X1_passDays)) N 0 [some (.ref 0), none] [] F Q from ?_)
  refine Pv.aload rfl rfl ?_
  refine Pv.getR (v := .ref 20) rfl rfl (GW.at (a := 0) (k := 5) (b := 20) hG (by decide)) ?_
  refine Pv.aload rfl rfl ?_
  refine Pv.getR (v := .ref 12) rfl rfl (GW.at (a := 0) (k := 4) (b := 12) hG (by decide)) ?_
  refine Pv.callV (as := [.ref 20, .ref 12]) (rest := []) rfl rfl rfl (f_shCopy (GW.o20 hG) hS b3 (by omega)) ?_
  rintro _ G1 ⟨rfl, x2, sr4⟩
  have hx3 := FX.tr (P := fun q => q = 0 ∨ (7 ≤ q ∧ q ≤ 9) ∨ (20 ≤ q ∧ q ≤ 27) ∨ q = 42) FX.rf (x2.wd (fun q (c : 20 ≤ q ∧ q ≤ 20 + 7) => (show q = 0 ∨ (7 ≤ q ∧ q ≤ 9) ∨ (20 ≤ q ∧ q ≤ 27) ∨ q = 42 by omega)))
  have hx5 := hT.fx (P := fun q => 20 ≤ q ∧ q ≤ 20 + 7) x2 (fun q h1 h2 (c : 20 ≤ q ∧ q ≤ 20 + 7) => by omega)
  have hx6 := hS.fx (P := fun q => 20 ≤ q ∧ q ≤ 20 + 7) x2 (fun q h1 h2 (c : 20 ≤ q ∧ q ≤ 20 + 7) => by omega)
  have hx7 := hG.fx (P := fun q => 20 ≤ q ∧ q ≤ 20 + 7) x2
  have hr8 : G1.2.1 0 13 = .ref t := by rw [x2.2.2.1]; exact ht
  refine (show Pv _ _ 11 [some (.ref 0), none] [] G1 Q from ?_)
  refine Pv.aload rfl rfl ?_
  refine Pv.aload rfl rfl ?_
  refine Pv.getR (v := .ref t) rfl rfl (hr8) ?_
  refine Pv.getI (z := Int32.ofNat (t_g T)) rfl rfl (hx5.g) ?_
  refine Pv.putI rfl rfl ?_
  refine Pv.lit rfl ?_
  refine Pv.istore (lo' := [some (.ref 0), some (.int 0)]) rfl rfl ?_
  refine Pv.lp (ι := Nat × FW) (lof := fun ⟨k, G⟩ => [some (.ref 0), some (.int (Int32.ofNat k))]) (Ff := fun ⟨k, G⟩ => G) (P := fun ⟨k, G⟩ => FX (fun q => q = 0 ∨ (7 ≤ q ∧ q ≤ 9) ∨ (20 ≤ q ∧ q ≤ 27) ∨ q = 42) F G ∧ (k ≤ 12) ∧ (G.1 0 17 = Int32.ofNat (t_g T)) ∧ (∀ k, k ≠ 17 → G.1 0 k = F.1 0 k) ∧ (AR G 42 k (fun _ => 5)) ∧ (SHR G 20 (t_m T) S)) ?_ (0, (fp G1 0 17 (Int32.ofNat (t_g T)))) (⟨(hx3).fp (show 0 = 0 ∨ (7 ≤ 0 ∧ 0 ≤ 9) ∨ (20 ≤ 0 ∧ 0 ≤ 27) ∨ 0 = 42 by omega), Nat.zero_le _, fp_eq, fun k hk0 => (fp_ne (Or.inr hk0)).trans (x2.1 0 k (by omega)), AR.z, (sr4.fx (P := fun q => q = 0) (((FX.rf (P := fun q => q = 0))).fp rfl) (fun q h1 h2 (c : q = 0) => by omega))⟩)
  rintro N9 hN10 ⟨k, G⟩ hi11 ih12
  refine (show Pv _ _ 24 [some (.ref 0), some (.int (Int32.ofNat k))] [] G Q from ?_)
  obtain ⟨hxG, hk, h17, h0, h42, hA⟩ := hi11
  have hx13 := hT.fx (P := fun q => q = 0 ∨ (7 ≤ q ∧ q ≤ 9) ∨ (20 ≤ q ∧ q ≤ 27) ∨ q = 42) hxG (fun q h1 h2 (c : q = 0 ∨ (7 ≤ q ∧ q ≤ 9) ∨ (20 ≤ q ∧ q ≤ 27) ∨ q = 42) => by omega)
  have hx14 := hS.fx (P := fun q => q = 0 ∨ (7 ≤ q ∧ q ≤ 9) ∨ (20 ≤ q ∧ q ≤ 27) ∨ q = 42) hxG (fun q h1 h2 (c : q = 0 ∨ (7 ≤ q ∧ q ≤ 9) ∨ (20 ≤ q ∧ q ≤ 27) ∨ q = 42) => by omega)
  have hx15 := hG.fx (P := fun q => q = 0 ∨ (7 ≤ q ∧ q ≤ 9) ∨ (20 ≤ q ∧ q ≤ 27) ∨ q = 42) hxG
  have hx16 : G.2.1 0 13 = .ref t := by rw [hxG.2.2.1]; exact ht
  refine Pv.iloadS rfl rfl ?_
  refine Pv.lit rfl ?_
  refine Pv.icmp rfl (fun c17 => ?_) (fun c17 => ?_)
  · skip
    replace c17 := (i_le (a := 12) (b := k) (by omega) (by omega)).mp (of_decide_eq_true c17)
    refine Pv.lit rfl ?_
    refine Pv.istore (lo' := [some (.ref 0), some (.int 1)]) rfl rfl ?_
    refine Pv.lp (ι := Nat × FW) (lof := fun ⟨k, G2⟩ => [some (.ref 0), some (.int (Int32.ofNat k))]) (Ff := fun ⟨k, G2⟩ => G2) (P := fun ⟨k, G2⟩ => FX (fun q => q = 0 ∨ (7 ≤ q ∧ q ≤ 9) ∨ (20 ≤ q ∧ q ≤ 27) ∨ q = 42) F G2 ∧ (1 ≤ k ∧ k ≤ 60) ∧ (G2.1 0 17 = Int32.ofNat (t_g T)) ∧ (∀ k, k ≠ 17 → G2.1 0 k = F.1 0 k) ∧ (AR G2 42 12 (m_row T S (k - 1))) ∧ (SHR G2 20 (t_m T) (m_days T S (k - 1))) ∧ (m_fst (pRest T S) (k - 1) = none)) ?_ (1, G) (⟨hxG, ⟨Nat.le_refl _, by omega⟩, h17, fun k hk0 => h0 k hk0, (h42).le (by omega), hA, rfl⟩)
    rintro N18 hN19 ⟨k, G2⟩ hi20 ih21
    refine (show Pv _ _ 45 [some (.ref 0), some (.int (Int32.ofNat k))] [] G2 Q from ?_)
    obtain ⟨hxG2, hk, h17, h0, h42, hA, hb⟩ := hi20
    have hx22 := hT.fx (P := fun q => q = 0 ∨ (7 ≤ q ∧ q ≤ 9) ∨ (20 ≤ q ∧ q ≤ 27) ∨ q = 42) hxG2 (fun q h1 h2 (c : q = 0 ∨ (7 ≤ q ∧ q ≤ 9) ∨ (20 ≤ q ∧ q ≤ 27) ∨ q = 42) => by omega)
    have hx23 := hS.fx (P := fun q => q = 0 ∨ (7 ≤ q ∧ q ≤ 9) ∨ (20 ≤ q ∧ q ≤ 27) ∨ q = 42) hxG2 (fun q h1 h2 (c : q = 0 ∨ (7 ≤ q ∧ q ≤ 9) ∨ (20 ≤ q ∧ q ≤ 27) ∨ q = 42) => by omega)
    have hx24 := hG.fx (P := fun q => q = 0 ∨ (7 ≤ q ∧ q ≤ 9) ∨ (20 ≤ q ∧ q ≤ 27) ∨ q = 42) hxG2
    have hx25 : G2.2.1 0 13 = .ref t := by rw [hxG2.2.2.1]; exact ht
    refine Pv.iloadS rfl rfl ?_
    refine Pv.lit rfl ?_
    refine Pv.icmp rfl (fun c26 => ?_) (fun c26 => ?_)
    · skip
      replace c26 := (i_le (a := 60) (b := k) (by omega) (by omega)).mp (of_decide_eq_true c26)
      refine Pv.aload rfl rfl ?_
      refine Pv.callV (as := [.ref 0]) (rest := []) rfl rfl rfl (o_movePrices (f := (m_row T S (k - 1))) hx24 hx25 hx22 hA h42 j0) ?_
      rintro _ G27 ⟨rfl, x28, ar30⟩
      have hx29 := FX.tr (P := fun q => q = 0 ∨ (7 ≤ q ∧ q ≤ 9) ∨ (20 ≤ q ∧ q ≤ 27) ∨ q = 42) hxG2 (x28.wd (fun q (c : q = 42) => (show q = 0 ∨ (7 ≤ q ∧ q ≤ 9) ∨ (20 ≤ q ∧ q ≤ 27) ∨ q = 42 by omega)))
      have hx31 := hx22.fx (P := fun q => q = 42) x28 (fun q h1 h2 (c : q = 42) => by omega)
      have hx32 := hx23.fx (P := fun q => q = 42) x28 (fun q h1 h2 (c : q = 42) => by omega)
      have hx33 := hA.fx (P := fun q => q = 42) x28 (fun q h1 h2 (c : q = 42) => by omega)
      have hx34 := hx24.fx (P := fun q => q = 42) x28
      have hr35 : G27.2.1 0 13 = .ref t := by rw [x28.2.2.1]; exact hx25
      refine (show Pv _ _ 87 [some (.ref 0), some (.int (Int32.ofNat k))] [.int (b2i (m_pM T (m_days T S (k - 1)) (m_row T S (k - 1)) (2 * t_g T)))] G27 Q from ?_)
      refine Pv.pop rfl ?_
      refine Pv.lit rfl ?_
      exact Pv.ret rfl (by rw [hQ]; exact ⟨by rw [rounds_60 (by rw [show 59 = k - 1 by omega]; exact hb)]; rfl, hx29, fun k hk0 => (x28.1 0 k (by omega)).trans (h0 k hk0), (x28.1 0 17 (by omega)).trans h17, by rw [rounds_60 (by rw [show 59 = k - 1 by omega]; exact hb), show 60 = k - 1 + 1 by omega]; exact ar30⟩)
    · skip
      replace c26 := mt (i_le (a := 60) (b := k) (by omega) (by omega)).mpr (of_decide_eq_false c26)
      refine Pv.aload rfl rfl ?_
      refine Pv.callV (as := [.ref 0]) (rest := []) rfl rfl rfl (o_movePrices (f := (m_row T S (k - 1))) hx24 hx25 hx22 hA h42 j0) ?_
      rintro _ G36 ⟨rfl, x37, ar39⟩
      have hx38 := FX.tr (P := fun q => q = 0 ∨ (7 ≤ q ∧ q ≤ 9) ∨ (20 ≤ q ∧ q ≤ 27) ∨ q = 42) hxG2 (x37.wd (fun q (c : q = 42) => (show q = 0 ∨ (7 ≤ q ∧ q ≤ 9) ∨ (20 ≤ q ∧ q ≤ 27) ∨ q = 42 by omega)))
      have hx40 := hx22.fx (P := fun q => q = 42) x37 (fun q h1 h2 (c : q = 42) => by omega)
      have hx41 := hx23.fx (P := fun q => q = 42) x37 (fun q h1 h2 (c : q = 42) => by omega)
      have hx42 := hA.fx (P := fun q => q = 42) x37 (fun q h1 h2 (c : q = 42) => by omega)
      have hx43 := hx24.fx (P := fun q => q = 42) x37
      have hr44 : G36.2.1 0 13 = .ref t := by rw [x37.2.2.1]; exact hx25
      refine (show Pv _ _ 55 [some (.ref 0), some (.int (Int32.ofNat k))] [.int (b2i (m_pM T (m_days T S (k - 1)) (m_row T S (k - 1)) (2 * t_g T)))] G36 Q from ?_)
      refine Pv.if0 rfl (fun c45 => ?_) (fun c45 => ?_)
      · skip
        replace c45 : decide (b2i (m_pM T (m_days T S (k - 1)) (m_row T S (k - 1)) (2 * t_g T)) = 0) = false := by simpa using c45
        replace c45 := of_decide_eq_false c45
        replace c45 := b2n.mp c45
        refine Pv.aload rfl rfl ?_
        refine Pv.getR (v := .ref 7) rfl rfl (GW.at (a := 0) (k := 2) (b := 7) hx43 (by decide)) ?_
        refine Pv.aload rfl rfl ?_
        refine Pv.getR (v := .ref t) rfl rfl (hr44) ?_
        refine Pv.aload rfl rfl ?_
        refine Pv.getR (v := .ref 20) rfl rfl (GW.at (a := 0) (k := 5) (b := 20) hx43 (by decide)) ?_
        refine Pv.lit rfl ?_
        refine Pv.callV (as := [.ref 7, .ref t, .ref 20, .int 1]) (rest := []) rfl rfl rfl (f_passDays (n := 1) hx40 hx42 hx43 (by omega) (by omega) (by omega) (by omega)) ?_
        rintro _ G46 ⟨rfl, x47, sr49, pl50⟩
        have hx48 := FX.tr (P := fun q => q = 0 ∨ (7 ≤ q ∧ q ≤ 9) ∨ (20 ≤ q ∧ q ≤ 27) ∨ q = 42) hx38 (x47.wd (fun q (c : (20 ≤ q ∧ q ≤ 20 + 7) ∨ (7 ≤ q ∧ q ≤ 9)) => (show q = 0 ∨ (7 ≤ q ∧ q ≤ 9) ∨ (20 ≤ q ∧ q ≤ 27) ∨ q = 42 by omega)))
        have hx51 := hx40.fx (P := fun q => (20 ≤ q ∧ q ≤ 20 + 7) ∨ (7 ≤ q ∧ q ≤ 9)) x47 (fun q h1 h2 (c : (20 ≤ q ∧ q ≤ 20 + 7) ∨ (7 ≤ q ∧ q ≤ 9)) => by omega)
        have hx52 := hx41.fx (P := fun q => (20 ≤ q ∧ q ≤ 20 + 7) ∨ (7 ≤ q ∧ q ≤ 9)) x47 (fun q h1 h2 (c : (20 ≤ q ∧ q ≤ 20 + 7) ∨ (7 ≤ q ∧ q ≤ 9)) => by omega)
        have hx53 := hx43.fx (P := fun q => (20 ≤ q ∧ q ≤ 20 + 7) ∨ (7 ≤ q ∧ q ≤ 9)) x47
        have hr54 : G46.2.1 0 13 = .ref t := by rw [x47.2.2.1]; exact hr44
        refine (show Pv _ _ 76 [some (.ref 0), some (.int (Int32.ofNat k))] [.int (Int32.ofNat (h_d (m_days T (m_days T S (k - 1)) 1)) - Int32.ofNat (h_d (m_days T S (k - 1))))] G46 Q from ?_)
        refine Pv.pop rfl ?_
        refine Pv.iinc (y := Int32.ofNat (k + 1)) (lo' := [some (.ref 0), some (.int (Int32.ofNat (k + 1)))]) rfl rfl (i_add k 1) rfl ?_
        refine Pv.goto rfl ?_
        exact ih21 (k + 1, G46) (⟨hx48, ⟨by omega, by omega⟩, (x47.1 0 17 (by omega)).trans ((x37.1 0 17 (by omega)).trans h17), fun k hk0 => (x47.1 0 k (by omega)).trans ((x37.1 0 k (by omega)).trans (h0 k hk0)), by rw [show k + 1 - 1 = k - 1 + 1 by omega]; exact AR.fx (P := fun q => (20 ≤ q ∧ q ≤ 27) ∨ (7 ≤ q ∧ q ≤ 9)) ar39 x47 (by omega), by rw [show k + 1 - 1 = k - 1 + 1 by omega]; exact days_1 sr49, by rw [show k + 1 - 1 = k - 1 + 1 by omega]; exact m_fst_n hb (by unfold pRest; rw [c45]; rfl)⟩)
      · skip
        replace c45 : decide (b2i (m_pM T (m_days T S (k - 1)) (m_row T S (k - 1)) (2 * t_g T)) = 0) = true := by simpa using c45
        replace c45 := of_decide_eq_true c45
        replace c45 := b2z.mp c45
        refine Pv.iload rfl rfl ?_
        exact Pv.ret rfl (by rw [hQ]; exact ⟨by rw [rounds_r (r := k - 1) hb (by unfold pRest; rw [c45]; rfl) (by omega), show k - 1 + 1 = k by omega], hx38, fun k hk0 => (x37.1 0 k (by omega)).trans (h0 k hk0), (x37.1 0 17 (by omega)).trans h17, by rw [rounds_r (r := k - 1) hb (by unfold pRest; rw [c45]; rfl) (by omega)]; exact ar39⟩)
  · skip
    replace c17 := mt (i_le (a := 12) (b := k) (by omega) (by omega)).mpr (of_decide_eq_false c17)
    refine Pv.aload rfl rfl ?_
    refine Pv.getR (v := .ref 42) rfl rfl (GW.at (a := 0) (k := 10) (b := 42) hx15 (by decide)) ?_
    refine Pv.iload rfl rfl ?_
    refine Pv.lit rfl ?_
    refine Pv.astk (k := k) (z := 5) rfl (i_toNat (by omega)) (rfl) ?_
    refine Pv.iinc (y := Int32.ofNat (k + 1)) (lo' := [some (.ref 0), some (.int (Int32.ofNat (k + 1)))]) rfl rfl (i_add k 1) rfl ?_
    refine Pv.goto rfl ?_
    exact ih12 (k + 1, (fp G 42 k 5)) (⟨(hxG).fp (show 42 = 0 ∨ (7 ≤ 42 ∧ 42 ≤ 9) ∨ (20 ≤ 42 ∧ 42 ≤ 27) ∨ 42 = 42 by omega), by omega, (fp_ne (Or.inl (by decide))).trans (h17), fun k hk0 => (fp_ne (Or.inl (by decide))).trans (h0 k hk0), (h42).ext (rfl), (hA.fx (P := fun q => q = 42) (((FX.rf (P := fun q => q = 42))).fp rfl) (fun q h1 h2 (c : q = 42) => by omega))⟩)
set_option maxRecDepth 100000 in
set_option maxHeartbeats 4000000 in
theorem f_drawDeed {F : FW} {t p : Nat} {T : St} {S : Sh} {x : Int32} (hG : GW F) (ht : F.2.1 0 13 = .ref t) (hT : TR F t T) (hS : SHR F p (t_m T) S) (hx : F.1 40 0 = x) (hg : 0 < t_g T) (j1 : t + 7 < p ∨ p + 7 < t) (j2 : t + 7 < 40 ∨ 40 < t) (j3 : p + 7 < 40 ∨ 40 < p) : Pm Z_X10_drawDeed [.ref 0, .ref p] F (fun r F' => r = none ∧ FX (fun q => (p ≤ q ∧ q ≤ p + 7) ∨ q = 40) F F' ∧ SHR F' p (t_m T) (m_dDs T S x) ∧ F'.1 40 0 = m_dDx T S x) := by
  refine Pm.of fun N => ?_
  obtain ⟨Q, hQ⟩ : ∃ Q : Option Value → FW → Prop, Q = (fun r F' => r = none ∧ FX (fun q => (p ≤ q ∧ q ≤ p + 7) ∨ q = 40) F F' ∧ SHR F' p (t_m T) (m_dDs T S x) ∧ F'.1 40 0 = m_dDx T S x) := ⟨_, rfl⟩
  rw [← hQ]
  have b3 := hT.mb
  have b5 := hT.gb
  have d0 : dr (m_nx x) 6 < 6 := Nat.mod_lt _ (by decide)
  refine (show Pv (ab_T (L_X10_drawDeed Z_X0_drawOf Z_X10_slotOf Z_X6_attempt)) N 0 [some (.ref 0), some (.ref p), none, none, none, none] [] F Q from ?_)
  refine Pv.aload rfl rfl ?_
  refine Pv.getR (v := .ref 40) rfl rfl (GW.at (a := 0) (k := 8) (b := 40) hG (by decide)) ?_
  refine Pv.lit rfl ?_
  refine Pv.callVI (as := [.ref 40, .int 6]) (rest := []) (z := Int32.ofNat (dr (m_nx x) 6)) rfl rfl rfl (f_drawOf (x := x) (n := 6) (hx) (by omega) (by omega)) ?_
  refine Pv.istore (lo' := [some (.ref 0), some (.ref p), some (.int (Int32.ofNat (dr (m_nx x) 6))), none, none, none]) rfl rfl ?_
  refine Pv.iload rfl rfl ?_
  refine Pv.lit rfl ?_
  refine Pv.icmp rfl (fun c1 => ?_) (fun c1 => ?_)
  · skip
    replace c1 := (i_le (a := dr (m_nx x) 6) (b := 2) (by omega) (by omega)).mp (of_decide_eq_true c1)
    refine Pv.aload rfl rfl ?_
    refine Pv.getR (v := .ref 40) rfl rfl (GW.at (a := 0) (k := 8) (b := 40) hG (by decide)) ?_
    refine Pv.aload rfl rfl ?_
    refine Pv.getR (v := .ref t) rfl rfl (ht) ?_
    refine Pv.getI (z := Int32.ofNat (t_g T)) rfl rfl ((fp_ne (Or.inl (by omega))).trans (hT.g)) ?_
    refine Pv.callVI (as := [.ref 40, .int (Int32.ofNat (t_g T))]) (rest := []) (z := Int32.ofNat (dr (m_nx (m_nx x)) (t_g T))) rfl rfl rfl (f_drawOf (x := m_nx x) (n := t_g T) (fp_eq) (by omega) (by omega)) ?_
    refine Pv.istore (lo' := [some (.ref 0), some (.ref p), some (.int (Int32.ofNat (dr (m_nx x) 6))), some (.int (Int32.ofNat (dr (m_nx (m_nx x)) (t_g T)))), none, none]) rfl rfl ?_
    refine Pv.aload rfl rfl ?_
    refine Pv.getR (v := .ref 40) rfl rfl (GW.at (a := 0) (k := 8) (b := 40) hG (by decide)) ?_
    refine Pv.lit rfl ?_
    refine Pv.callVI (as := [.ref 40, .int 2]) (rest := []) (z := Int32.ofNat (dr (m_nx (m_nx (m_nx x))) 2)) rfl rfl rfl (f_drawOf (x := m_nx (m_nx x)) (n := 2) (fp_eq) (by omega) (by omega)) ?_
    refine Pv.istore (lo' := [some (.ref 0), some (.ref p), some (.int (Int32.ofNat (dr (m_nx x) 6))), some (.int (Int32.ofNat (dr (m_nx (m_nx x)) (t_g T)))), some (.int (Int32.ofNat (dr (m_nx (m_nx (m_nx x))) 2))), none]) rfl rfl ?_
    refine Pv.aload rfl rfl ?_
    refine Pv.getR (v := .ref 40) rfl rfl (GW.at (a := 0) (k := 8) (b := 40) hG (by decide)) ?_
    refine Pv.lit rfl ?_
    refine Pv.callVI (as := [.ref 40, .int 20]) (rest := []) (z := Int32.ofNat (dr (m_nx (m_nx (m_nx (m_nx x)))) 20)) rfl rfl rfl (f_drawOf (x := m_nx (m_nx (m_nx x))) (n := 20) (fp_eq) (by omega) (by omega)) ?_
    refine Pv.lit rfl ?_
    refine Pv.bin (z := Int32.ofNat ((dr (m_nx (m_nx (m_nx (m_nx x)))) 20) + 1)) rfl (i_add (dr (m_nx (m_nx (m_nx (m_nx x)))) 20) 1) ?_
    refine Pv.istore (lo' := [some (.ref 0), some (.ref p), some (.int (Int32.ofNat (dr (m_nx x) 6))), some (.int (Int32.ofNat (dr (m_nx (m_nx x)) (t_g T)))), some (.int (Int32.ofNat (dr (m_nx (m_nx (m_nx x))) 2))), some (.int (Int32.ofNat ((dr (m_nx (m_nx (m_nx (m_nx x)))) 20) + 1)))]) rfl rfl ?_
    have hs2 : (fp (fp (fp (fp F 40 0 (m_nx x)) 40 0 (m_nx (m_nx x))) 40 0 (m_nx (m_nx (m_nx x)))) 40 0 (m_nx (m_nx (m_nx (m_nx x))))).1 40 0 = m_nx (m_nx (m_nx (m_nx x))) := fp_eq
    have d1 : dr (m_nx (m_nx x)) (t_g T) < t_g T := Nat.mod_lt _ hg
    have d2 : dr (m_nx (m_nx (m_nx x))) 2 < 2 := Nat.mod_lt _ (by decide)
    have d3 : dr (m_nx (m_nx (m_nx (m_nx x)))) 20 < 20 := Nat.mod_lt _ (by decide)
    refine Pv.aload rfl rfl ?_
    refine Pv.iload rfl rfl ?_
    refine Pv.iload rfl rfl ?_
    refine Pv.iload rfl rfl ?_
    refine Pv.callI (as := [.int (Int32.ofNat (dr (m_nx (m_nx x)) (t_g T))), .int (Int32.ofNat (dr (m_nx (m_nx (m_nx x))) 2))]) (rest := [.int (Int32.ofNat (dr (m_nx x) 6)), .ref p]) (z := Int32.ofNat (2 * (dr (m_nx (m_nx x)) (t_g T)) + (dr (m_nx (m_nx (m_nx x))) 2))) rfl rfl rfl (f_slotOf (g := dr (m_nx (m_nx x)) (t_g T)) (s := dr (m_nx (m_nx (m_nx x))) 2)) ?_
    refine Pv.iload rfl rfl ?_
    refine Pv.callV (as := [.ref p, .int (Int32.ofNat (dr (m_nx x) 6)), .int (Int32.ofNat (2 * (dr (m_nx (m_nx x)) (t_g T)) + (dr (m_nx (m_nx (m_nx x))) 2))), .int (Int32.ofNat ((dr (m_nx (m_nx (m_nx (m_nx x)))) 20) + 1))]) (rest := []) rfl rfl rfl (f_attempt (k := 2 * (dr (m_nx (m_nx x)) (t_g T)) + (dr (m_nx (m_nx (m_nx x))) 2)) (n := (dr (m_nx (m_nx (m_nx (m_nx x)))) 20) + 1) (d := dr (m_nx x) 6) (hS.fx (P := fun q => q = 40) ((((((FX.rf (P := fun q => q = 40))).fp rfl).fp rfl).fp rfl).fp rfl) (fun q h1 h2 (c : q = 40) => by omega)) (by omega) (by omega) (by omega)) ?_
    rintro _ G3 ⟨rfl, x4, sr6⟩
    have hx5 := FX.tr (P := fun q => (p ≤ q ∧ q ≤ p + 7) ∨ q = 40) ((((((FX.rf (P := fun q => (p ≤ q ∧ q ≤ p + 7) ∨ q = 40))).fp (show (p ≤ 40 ∧ 40 ≤ p + 7) ∨ 40 = 40 by omega)).fp (show (p ≤ 40 ∧ 40 ≤ p + 7) ∨ 40 = 40 by omega)).fp (show (p ≤ 40 ∧ 40 ≤ p + 7) ∨ 40 = 40 by omega)).fp (show (p ≤ 40 ∧ 40 ≤ p + 7) ∨ 40 = 40 by omega)) (x4.wd (fun q (c : p ≤ q ∧ q ≤ p + 7) => (show (p ≤ q ∧ q ≤ p + 7) ∨ q = 40 by omega)))
    have hx7 := (hT.fx (P := fun q => q = 40) ((((((FX.rf (P := fun q => q = 40))).fp rfl).fp rfl).fp rfl).fp rfl) (fun q h1 h2 (c : q = 40) => by omega)).fx (P := fun q => p ≤ q ∧ q ≤ p + 7) x4 (fun q h1 h2 (c : p ≤ q ∧ q ≤ p + 7) => by omega)
    have hx8 := (hG.fx (P := fun _ => True) ((((((FX.rf (P := fun _ => True))).fp trivial).fp trivial).fp trivial).fp trivial)).fx (P := fun q => p ≤ q ∧ q ≤ p + 7) x4
    have hr9 : G3.2.1 0 13 = .ref t := by rw [x4.2.2.1]; exact ht
    refine (show Pv _ _ 67 [some (.ref 0), some (.ref p), some (.int (Int32.ofNat (dr (m_nx x) 6))), some (.int (Int32.ofNat (dr (m_nx (m_nx x)) (t_g T)))), some (.int (Int32.ofNat (dr (m_nx (m_nx (m_nx x))) 2))), some (.int (Int32.ofNat ((dr (m_nx (m_nx (m_nx (m_nx x)))) 20) + 1)))] [.int (m_why (dr (m_nx x) 6) S (2 * (dr (m_nx (m_nx x)) (t_g T)) + (dr (m_nx (m_nx (m_nx x))) 2)) (Int32.ofNat ((dr (m_nx (m_nx (m_nx (m_nx x)))) 20) + 1)))] G3 Q from ?_)
    refine Pv.pop rfl ?_
    exact Pv.vret rfl (by rw [hQ]; exact ⟨rfl, hx5, by unfold m_dDs; rw [if_pos (by omega)]; exact sr6, by unfold m_dDx; rw [if_pos (by omega)]; exact (x4.1 40 0 (by omega)).trans hs2⟩)
  · skip
    replace c1 := mt (i_le (a := dr (m_nx x) 6) (b := 2) (by omega) (by omega)).mpr (of_decide_eq_false c1)
    exact Pv.vret rfl (by rw [hQ]; exact ⟨rfl, ((FX.rf (P := fun q => (p ≤ q ∧ q ≤ p + 7) ∨ q = 40))).fp (show (p ≤ 40 ∧ 40 ≤ p + 7) ∨ 40 = 40 by omega), by unfold m_dDs; rw [if_neg (by omega)]; exact (hS.fx (P := fun q => q = 40) (((FX.rf (P := fun q => q = 40))).fp rfl) (fun q h1 h2 (c : q = 40) => by omega)), by unfold m_dDx; rw [if_neg (by omega)]; exact fp_eq⟩)
set_option maxRecDepth 100000 in
set_option maxHeartbeats 4000000 in
theorem f_drawDeath {F : FW} {t p : Nat} {T : St} {S : Sh} {x : Int32} (hG : GW F) (ht : F.2.1 0 13 = .ref t) (hT : TR F t T) (hS : SHR F p (t_m T) S) (hx : F.1 40 0 = x) (hg : 0 < t_g T) (j1 : t + 7 < p ∨ p + 7 < t) (j2 : t + 7 < 40 ∨ 40 < t) (j3 : p + 7 < 40 ∨ 40 < p) : Pm Z_X10_drawDeath [.ref 0, .ref p] F (fun r F' => r = none ∧ FX (fun q => (p ≤ q ∧ q ≤ p + 7) ∨ q = 40) F F' ∧ SHR F' p (t_m T) (m_dXs T S x) ∧ F'.1 40 0 = m_dXx T S x) := by
  refine Pm.of fun N => ?_
  obtain ⟨Q, hQ⟩ : ∃ Q : Option Value → FW → Prop, Q = (fun r F' => r = none ∧ FX (fun q => (p ≤ q ∧ q ≤ p + 7) ∨ q = 40) F F' ∧ SHR F' p (t_m T) (m_dXs T S x) ∧ F'.1 40 0 = m_dXx T S x) := ⟨_, rfl⟩
  rw [← hQ]
  have b3 := hT.mb
  have b5 := hT.gb
  have d0 : dr (m_nx x) 90 < 90 := Nat.mod_lt _ (by decide)
  refine (show Pv (ab_T (L_X10_drawDeath Z_X0_drawOf Z_X6_attempt)) N 0 [some (.ref 0), some (.ref p)] [] F Q from ?_)
  refine Pv.aload rfl rfl ?_
  refine Pv.getR (v := .ref 40) rfl rfl (GW.at (a := 0) (k := 8) (b := 40) hG (by decide)) ?_
  refine Pv.lit rfl ?_
  refine Pv.callVI (as := [.ref 40, .int 90]) (rest := []) (z := Int32.ofNat (dr (m_nx x) 90)) rfl rfl rfl (f_drawOf (x := x) (n := 90) (hx) (by omega) (by omega)) ?_
  refine Pv.if0 rfl (fun c1 => ?_) (fun c1 => ?_)
  · skip
    replace c1 : decide (Int32.ofNat (dr (m_nx x) 90) = 0) = false := by simpa using c1
    replace c1 := mt (i_eq (a := dr (m_nx x) 90) (b := 0) (by omega) (by omega)).mpr (of_decide_eq_false c1)
    exact Pv.vret rfl (by rw [hQ]; exact ⟨rfl, ((FX.rf (P := fun q => (p ≤ q ∧ q ≤ p + 7) ∨ q = 40))).fp (show (p ≤ 40 ∧ 40 ≤ p + 7) ∨ 40 = 40 by omega), by unfold m_dXs; rw [if_neg (fun q => c1 q.1)]; exact (hS.fx (P := fun q => q = 40) (((FX.rf (P := fun q => q = 40))).fp rfl) (fun q h1 h2 (c : q = 40) => by omega)), by unfold m_dXx; rw [if_neg (fun q => c1 q.1)]; exact fp_eq⟩)
  · skip
    replace c1 : decide (Int32.ofNat (dr (m_nx x) 90) = 0) = true := by simpa using c1
    replace c1 := (i_eq (a := dr (m_nx x) 90) (b := 0) (by omega) (by omega)).mp (of_decide_eq_true c1)
    refine Pv.aload rfl rfl ?_
    refine Pv.getR (v := .ref t) rfl rfl (ht) ?_
    refine Pv.getI (z := Int32.ofNat (t_m T)) rfl rfl ((fp_ne (Or.inl (by omega))).trans (hT.m)) ?_
    refine Pv.if0 rfl (fun c2 => ?_) (fun c2 => ?_)
    · skip
      replace c2 := (i_le (a := t_m T) (b := 0) (by omega) (by omega)).mp (of_decide_eq_true c2)
      exact Pv.vret rfl (by rw [hQ]; exact ⟨rfl, ((FX.rf (P := fun q => (p ≤ q ∧ q ≤ p + 7) ∨ q = 40))).fp (show (p ≤ 40 ∧ 40 ≤ p + 7) ∨ 40 = 40 by omega), by unfold m_dXs; rw [if_neg (fun q => absurd q.2 (by omega))]; exact (hS.fx (P := fun q => q = 40) (((FX.rf (P := fun q => q = 40))).fp rfl) (fun q h1 h2 (c : q = 40) => by omega)), by unfold m_dXx; rw [if_neg (fun q => absurd q.2 (by omega))]; exact fp_eq⟩)
    · skip
      replace c2 := mt (i_le (a := t_m T) (b := 0) (by omega) (by omega)).mpr (of_decide_eq_false c2)
      refine Pv.aload rfl rfl ?_
      refine Pv.lit rfl ?_
      refine Pv.aload rfl rfl ?_
      refine Pv.getR (v := .ref 40) rfl rfl (GW.at (a := 0) (k := 8) (b := 40) hG (by decide)) ?_
      refine Pv.aload rfl rfl ?_
      refine Pv.getR (v := .ref t) rfl rfl (ht) ?_
      refine Pv.getI (z := Int32.ofNat (t_m T)) rfl rfl ((fp_ne (Or.inl (by omega))).trans (hT.m)) ?_
      refine Pv.callVI (as := [.ref 40, .int (Int32.ofNat (t_m T))]) (rest := [.int 3, .ref p]) (z := Int32.ofNat (dr (m_nx (m_nx x)) (t_m T))) rfl rfl rfl (f_drawOf (x := m_nx x) (n := t_m T) (fp_eq) (by omega) (by omega)) ?_
      refine Pv.lit rfl ?_
      have hs3 : (fp (fp F 40 0 (m_nx x)) 40 0 (m_nx (m_nx x))).1 40 0 = m_nx (m_nx x) := fp_eq
      have d1 : dr (m_nx (m_nx x)) (t_m T) < t_m T := Nat.mod_lt _ (by omega)
      refine Pv.callV (as := [.ref p, .int 3, .int (Int32.ofNat (dr (m_nx (m_nx x)) (t_m T))), .int 0]) (rest := []) rfl rfl rfl (f_attempt3 (k := dr (m_nx (m_nx x)) (t_m T)) (hS.fx (P := fun q => q = 40) ((((FX.rf (P := fun q => q = 40))).fp rfl).fp rfl) (fun q h1 h2 (c : q = 40) => by omega)) (by omega) b3) ?_
      rintro _ G4 ⟨rfl, x5, sr7⟩
      have hx6 := FX.tr (P := fun q => (p ≤ q ∧ q ≤ p + 7) ∨ q = 40) ((((FX.rf (P := fun q => (p ≤ q ∧ q ≤ p + 7) ∨ q = 40))).fp (show (p ≤ 40 ∧ 40 ≤ p + 7) ∨ 40 = 40 by omega)).fp (show (p ≤ 40 ∧ 40 ≤ p + 7) ∨ 40 = 40 by omega)) (x5.wd (fun q (c : p ≤ q ∧ q ≤ p + 7) => (show (p ≤ q ∧ q ≤ p + 7) ∨ q = 40 by omega)))
      have hx8 := (hT.fx (P := fun q => q = 40) ((((FX.rf (P := fun q => q = 40))).fp rfl).fp rfl) (fun q h1 h2 (c : q = 40) => by omega)).fx (P := fun q => p ≤ q ∧ q ≤ p + 7) x5 (fun q h1 h2 (c : p ≤ q ∧ q ≤ p + 7) => by omega)
      have hx9 := (hG.fx (P := fun _ => True) ((((FX.rf (P := fun _ => True))).fp trivial).fp trivial)).fx (P := fun q => p ≤ q ∧ q ≤ p + 7) x5
      have hr10 : G4.2.1 0 13 = .ref t := by rw [x5.2.2.1]; exact ht
      refine (show Pv _ _ 42 [some (.ref 0), some (.ref p)] [.int (m_why 3 S (dr (m_nx (m_nx x)) (t_m T)) 0)] G4 Q from ?_)
      refine Pv.pop rfl ?_
      exact Pv.vret rfl (by rw [hQ]; exact ⟨rfl, hx6, by unfold m_dXs; rw [if_pos ⟨c1, by omega⟩]; exact sr7, by unfold m_dXx; rw [if_pos ⟨c1, by omega⟩]; exact (x5.1 40 0 (by omega)).trans hs3⟩)
set_option maxRecDepth 100000 in
set_option maxHeartbeats 4000000 in
theorem f_drawDays {F : FW} {t p n : Nat} {T : St} {S : Sh} {x : Int32} (hG : GW F) (ht : F.2.1 0 13 = .ref t) (hT : TR F t T) (hS : SHR F p (t_m T) S) (hg : 0 < t_g T) (hn : n < 1000) (j1 : t + 7 < p ∨ p + 7 < t) (j2 : t + 7 < 40 ∨ 40 < t) (j3 : p + 7 < 40 ∨ 40 < p) (j4 : p + 7 < 7 ∨ 9 < p) (j5 : t + 7 < 7 ∨ 9 < t) : Pm Z_X10_drawDays [.ref 0, .ref p, .int (Int32.ofNat n), .int x] F (fun r F' => r = some (.int (Int32.ofNat (h_d (m_drawn T (S, x) n).1) - Int32.ofNat (h_d S))) ∧ FX (fun q => (p ≤ q ∧ q ≤ p + 7) ∨ (7 ≤ q ∧ q ≤ 9) ∨ q = 40) F F' ∧ SHR F' p (t_m T) (m_drawn T (S, x) n).1 ∧ F'.1 40 0 = (m_drawn T (S, x) n).2) := by
  refine Pm.of fun N => ?_
  obtain ⟨Q, hQ⟩ : ∃ Q : Option Value → FW → Prop, Q = (fun r F' => r = some (.int (Int32.ofNat (h_d (m_drawn T (S, x) n).1) - Int32.ofNat (h_d S))) ∧ FX (fun q => (p ≤ q ∧ q ≤ p + 7) ∨ (7 ≤ q ∧ q ≤ 9) ∨ q = 40) F F' ∧ SHR F' p (t_m T) (m_drawn T (S, x) n).1 ∧ F'.1 40 0 = (m_drawn T (S, x) n).2) := ⟨_, rfl⟩
  rw [← hQ]
  have b3 := hT.mb
  have b5 := hT.gb
  have b7 := hS.db
  refine (show Pv (ab_T (L_X10_drawDays Z_X10_drawDeed Z_X10_drawDeath Z_X1_passDays)) N 0 [some (.ref 0), some (.ref p), some (.int (Int32.ofNat n)), some (.int x), none, none] [] F Q from ?_)
  refine Pv.aload rfl rfl ?_
  refine Pv.getI (z := Int32.ofNat (h_d S)) rfl rfl (hS.d) ?_
  refine Pv.istore (lo' := [some (.ref 0), some (.ref p), some (.int (Int32.ofNat n)), some (.int x), some (.int (Int32.ofNat (h_d S))), none]) rfl rfl ?_
  refine Pv.aload rfl rfl ?_
  refine Pv.getR (v := .ref 40) rfl rfl (GW.at (a := 0) (k := 8) (b := 40) hG (by decide)) ?_
  refine Pv.iload rfl rfl ?_
  refine Pv.putI rfl rfl ?_
  refine Pv.lit rfl ?_
  refine Pv.istore (lo' := [some (.ref 0), some (.ref p), some (.int (Int32.ofNat n)), some (.int x), some (.int (Int32.ofNat (h_d S))), some (.int 0)]) rfl rfl ?_
  refine Pv.lp (ι := Nat × FW) (lof := fun ⟨k, G⟩ => [some (.ref 0), some (.ref p), some (.int (Int32.ofNat n)), some (.int x), some (.int (Int32.ofNat (h_d S))), some (.int (Int32.ofNat k))]) (Ff := fun ⟨k, G⟩ => G) (P := fun ⟨k, G⟩ => k ≤ n ∧ FX (fun q => (p ≤ q ∧ q ≤ p + 7) ∨ (7 ≤ q ∧ q ≤ 9) ∨ q = 40) F G ∧ SHR G p (t_m T) (m_drawn T (S, x) k).1 ∧ G.1 40 0 = (m_drawn T (S, x) k).2) ?_ (0, (fp F 40 0 x)) (⟨Nat.zero_le _, ((FX.rf (P := fun q => (p ≤ q ∧ q ≤ p + 7) ∨ (7 ≤ q ∧ q ≤ 9) ∨ q = 40))).fp (show (p ≤ 40 ∧ 40 ≤ p + 7) ∨ (7 ≤ 40 ∧ 40 ≤ 9) ∨ 40 = 40 by omega), (hS.fx (P := fun q => q = 40) (((FX.rf (P := fun q => q = 40))).fp rfl) (fun q h1 h2 (c : q = 40) => by omega)), fp_eq⟩)
  rintro N1 hN2 ⟨k, G⟩ hi3 ih4
  refine (show Pv _ _ 17 [some (.ref 0), some (.ref p), some (.int (Int32.ofNat n)), some (.int x), some (.int (Int32.ofNat (h_d S))), some (.int (Int32.ofNat k))] [] G Q from ?_)
  obtain ⟨hk, hxG, hA, hx0⟩ := hi3
  have hx5 := hT.fx (P := fun q => (p ≤ q ∧ q ≤ p + 7) ∨ (7 ≤ q ∧ q ≤ 9) ∨ q = 40) hxG (fun q h1 h2 (c : (p ≤ q ∧ q ≤ p + 7) ∨ (7 ≤ q ∧ q ≤ 9) ∨ q = 40) => by omega)
  have hx6 := hG.fx (P := fun q => (p ≤ q ∧ q ≤ p + 7) ∨ (7 ≤ q ∧ q ≤ 9) ∨ q = 40) hxG
  have hx7 : G.2.1 0 13 = .ref t := by rw [hxG.2.2.1]; exact ht
  have bD := hA.db
  refine Pv.iloadS rfl rfl ?_
  refine Pv.iload rfl rfl ?_
  refine Pv.icmp rfl (fun c8 => ?_) (fun c8 => ?_)
  · skip
    replace c8 := (i_le (a := n) (b := k) (by omega) (by omega)).mp (of_decide_eq_true c8)
    refine Pv.aload rfl rfl ?_
    refine Pv.getI (z := Int32.ofNat (h_d (m_drawn T (S, x) k).1)) rfl rfl (hA.d) ?_
    refine Pv.iload rfl rfl ?_
    refine Pv.bin (z := (Int32.ofNat (h_d (m_drawn T (S, x) k).1)) - (Int32.ofNat (h_d S))) rfl (rfl) ?_
    exact Pv.ret rfl (by rw [hQ]; exact ⟨by rw [show n = k by omega], hxG, by rw [show n = k by omega]; exact hA, by rw [show n = k by omega]; exact hx0⟩)
  · skip
    replace c8 := mt (i_le (a := n) (b := k) (by omega) (by omega)).mpr (of_decide_eq_false c8)
    refine Pv.aload rfl rfl ?_
    refine Pv.getI (z := Int32.ofNat (h_d (m_drawn T (S, x) k).1)) rfl rfl (hA.d) ?_
    refine Pv.lit rfl ?_
    refine Pv.icmp rfl (fun c9 => ?_) (fun c9 => ?_)
    · skip
      replace c9 := (i_le (a := 400) (b := h_d (m_drawn T (S, x) k).1) (by omega) (by omega)).mp (of_decide_eq_true c9)
      refine Pv.aload rfl rfl ?_
      refine Pv.getI (z := Int32.ofNat (h_d (m_drawn T (S, x) k).1)) rfl rfl (hA.d) ?_
      refine Pv.iload rfl rfl ?_
      refine Pv.bin (z := (Int32.ofNat (h_d (m_drawn T (S, x) k).1)) - (Int32.ofNat (h_d S))) rfl (rfl) ?_
      exact Pv.ret rfl (by rw [hQ]; exact ⟨by rw [drawn_e (T := T) (q := (S, x)) (k := k) (n := n) (by omega) (by omega)], hxG, by rw [drawn_e (T := T) (q := (S, x)) (k := k) (n := n) (by omega) (by omega)]; exact hA, by rw [drawn_e (T := T) (q := (S, x)) (k := k) (n := n) (by omega) (by omega)]; exact hx0⟩)
    · skip
      replace c9 := mt (i_le (a := 400) (b := h_d (m_drawn T (S, x) k).1) (by omega) (by omega)).mpr (of_decide_eq_false c9)
      refine Pv.aload rfl rfl ?_
      refine Pv.aload rfl rfl ?_
      refine Pv.callV (as := [.ref 0, .ref p]) (rest := []) rfl rfl rfl (f_drawDeed hx6 hx7 hx5 hA hx0 (by omega) (by omega) (by omega) (by omega)) ?_
      rintro _ G10 ⟨rfl, x11, sr13, hs14⟩
      have hx12 := FX.tr (P := fun q => (p ≤ q ∧ q ≤ p + 7) ∨ (7 ≤ q ∧ q ≤ 9) ∨ q = 40) hxG (x11.wd (fun q (c : (p ≤ q ∧ q ≤ p + 7) ∨ q = 40) => (show (p ≤ q ∧ q ≤ p + 7) ∨ (7 ≤ q ∧ q ≤ 9) ∨ q = 40 by omega)))
      have hx15 := hx5.fx (P := fun q => (p ≤ q ∧ q ≤ p + 7) ∨ q = 40) x11 (fun q h1 h2 (c : (p ≤ q ∧ q ≤ p + 7) ∨ q = 40) => by omega)
      have hx16 := hx6.fx (P := fun q => (p ≤ q ∧ q ≤ p + 7) ∨ q = 40) x11
      have hr17 : G10.2.1 0 13 = .ref t := by rw [x11.2.2.1]; exact hx7
      refine (show Pv _ _ 38 [some (.ref 0), some (.ref p), some (.int (Int32.ofNat n)), some (.int x), some (.int (Int32.ofNat (h_d S))), some (.int (Int32.ofNat k))] [] G10 Q from ?_)
      refine Pv.aload rfl rfl ?_
      refine Pv.aload rfl rfl ?_
      refine Pv.callV (as := [.ref 0, .ref p]) (rest := []) rfl rfl rfl (f_drawDeath hx16 hr17 hx15 sr13 hs14 (by omega) (by omega) (by omega) (by omega)) ?_
      rintro _ G18 ⟨rfl, x19, sr21, hs22⟩
      have hx20 := FX.tr (P := fun q => (p ≤ q ∧ q ≤ p + 7) ∨ (7 ≤ q ∧ q ≤ 9) ∨ q = 40) hx12 (x19.wd (fun q (c : (p ≤ q ∧ q ≤ p + 7) ∨ q = 40) => (show (p ≤ q ∧ q ≤ p + 7) ∨ (7 ≤ q ∧ q ≤ 9) ∨ q = 40 by omega)))
      have hx23 := hx15.fx (P := fun q => (p ≤ q ∧ q ≤ p + 7) ∨ q = 40) x19 (fun q h1 h2 (c : (p ≤ q ∧ q ≤ p + 7) ∨ q = 40) => by omega)
      have hx24 := hx16.fx (P := fun q => (p ≤ q ∧ q ≤ p + 7) ∨ q = 40) x19
      have hr25 : G18.2.1 0 13 = .ref t := by rw [x19.2.2.1]; exact hr17
      refine (show Pv _ _ 43 [some (.ref 0), some (.ref p), some (.int (Int32.ofNat n)), some (.int x), some (.int (Int32.ofNat (h_d S))), some (.int (Int32.ofNat k))] [] G18 Q from ?_)
      refine Pv.aload rfl rfl ?_
      refine Pv.getR (v := .ref 7) rfl rfl (GW.at (a := 0) (k := 2) (b := 7) hx24 (by decide)) ?_
      refine Pv.aload rfl rfl ?_
      refine Pv.getR (v := .ref t) rfl rfl (hr25) ?_
      refine Pv.aload rfl rfl ?_
      refine Pv.lit rfl ?_
      refine Pv.callV (as := [.ref 7, .ref t, .ref p, .int 1]) (rest := []) rfl rfl rfl (f_passDays (n := 1) hx23 sr21 hx24 (by omega) (by omega) (by omega) (by omega)) ?_
      rintro _ G26 ⟨rfl, x27, sr29, pl30⟩
      have hx28 := FX.tr (P := fun q => (p ≤ q ∧ q ≤ p + 7) ∨ (7 ≤ q ∧ q ≤ 9) ∨ q = 40) hx20 (x27.wd (fun q (c : (p ≤ q ∧ q ≤ p + 7) ∨ (7 ≤ q ∧ q ≤ 9)) => (show (p ≤ q ∧ q ≤ p + 7) ∨ (7 ≤ q ∧ q ≤ 9) ∨ q = 40 by omega)))
      have hx31 := hx23.fx (P := fun q => (p ≤ q ∧ q ≤ p + 7) ∨ (7 ≤ q ∧ q ≤ 9)) x27 (fun q h1 h2 (c : (p ≤ q ∧ q ≤ p + 7) ∨ (7 ≤ q ∧ q ≤ 9)) => by omega)
      have hx32 := hx24.fx (P := fun q => (p ≤ q ∧ q ≤ p + 7) ∨ (7 ≤ q ∧ q ≤ 9)) x27
      have hr33 : G26.2.1 0 13 = .ref t := by rw [x27.2.2.1]; exact hr25
      refine (show Pv _ _ 56 [some (.ref 0), some (.ref p), some (.int (Int32.ofNat n)), some (.int x), some (.int (Int32.ofNat (h_d S))), some (.int (Int32.ofNat k))] [.int (Int32.ofNat (h_d (m_days T (m_dXs T (m_dDs T ((m_drawn T (S, x) k).1) ((m_drawn T (S, x) k).2)) (m_dDx T ((m_drawn T (S, x) k).1) ((m_drawn T (S, x) k).2))) 1)) - Int32.ofNat (h_d (m_dXs T (m_dDs T ((m_drawn T (S, x) k).1) ((m_drawn T (S, x) k).2)) (m_dDx T ((m_drawn T (S, x) k).1) ((m_drawn T (S, x) k).2)))))] G26 Q from ?_)
      have hq34 : SHR G26 p (t_m T) (m_day T (m_dXs T (m_dDs T ((m_drawn T (S, x) k).1) ((m_drawn T (S, x) k).2)) (m_dDx T ((m_drawn T (S, x) k).1) ((m_drawn T (S, x) k).2)))) := by have q := sr29; rw [days_one (S := (m_dXs T (m_dDs T ((m_drawn T (S, x) k).1) ((m_drawn T (S, x) k).2)) (m_dDx T ((m_drawn T (S, x) k).1) ((m_drawn T (S, x) k).2)))) (by rw [h_d_drawX, h_d_drawD]; omega)] at q; exact q
      refine Pv.pop rfl ?_
      refine Pv.iinc (y := Int32.ofNat (k + 1)) (lo' := [some (.ref 0), some (.ref p), some (.int (Int32.ofNat n)), some (.int x), some (.int (Int32.ofNat (h_d S))), some (.int (Int32.ofNat (k + 1)))]) rfl rfl (i_add k 1) rfl ?_
      refine Pv.goto rfl ?_
      exact ih4 (k + 1, G26) (⟨by omega, hx28, by rw [drawn_1 (by omega)]; exact hq34, by rw [drawn_2 (by omega)]; exact (x27.1 40 0 (by omega)).trans hs22⟩)
set_option maxRecDepth 100000 in
set_option maxHeartbeats 4000000 in
theorem o_odds {F : FW} {t : Nat} {T : St} {S : Sh} (hG : GW F) (ht : F.2.1 0 13 = .ref t) (hT : TR F t T) (hS : SHR F 12 (t_m T) S) (j0 : t = 45 ∨ t = 53) (x y z : Int32) : Pm Z_X10_odds [.ref 0, .int x, .int y, .int z] F (fun r F' => r = some (.int (a_odds T S x y z)) ∧ CDR F F') := by
  refine Pm.of fun N => ?_
  obtain ⟨Q, hQ⟩ : ∃ Q : Option Value → FW → Prop, Q = (fun r F' => r = some (.int (a_odds T S x y z)) ∧ CDR F F') := ⟨_, rfl⟩
  rw [← hQ]
  have b3 := hT.mb
  have b4 := hT.nb
  have b5 := hT.gb
  have b6 := m_from_lt S
  have b7 := hS.db
  refine (show Pv (ab_T (L_X10_odds Z_X10_isMan Z_X10_isWithin Z_X6_copyFrom Z_X10_drawDays)) N 0 [some (.ref 0), some (.int x), some (.int y), some (.int z), none, none] [] F Q from ?_)
  refine Pv.aload rfl rfl ?_
  refine Pv.iload rfl rfl ?_
  refine Pv.callVI (as := [.ref 0, .int x]) (rest := []) (z := b2i (nd (t_m T) x).isSome) rfl rfl rfl (o_isMan hG ht hT hS j0 x) ?_
  refine Pv.if0 rfl (fun c1 => ?_) (fun c1 => ?_)
  · skip
    replace c1 := of_decide_eq_true c1
    replace c1 := b2z.mp c1
    refine Pv.lit rfl ?_
    exact Pv.ret rfl (by rw [hQ]; exact ⟨by unfold a_odds; rw [nd_f c1], FX.rf⟩)
  · skip
    replace c1 := of_decide_eq_false c1
    replace c1 := b2n.mp c1
    obtain ⟨m, hm, hml, rfl⟩ := nd_t c1
    refine Pv.iload rfl rfl ?_
    refine Pv.lit rfl ?_
    refine Pv.callI (as := [.int y, .int 30]) (rest := []) (z := b2i (decide (1 ≤ y) && decide (y ≤ 30))) rfl rfl rfl ((o_isWithin y 30)) ?_
    refine Pv.if0 rfl (fun c2 => ?_) (fun c2 => ?_)
    · skip
      replace c2 := of_decide_eq_true c2
      replace c2 := b2z.mp c2
      refine Pv.lit rfl ?_
      exact Pv.ret rfl (by rw [hQ]; exact ⟨by unfold a_odds; rw [hm]; dsimp only; rw [ndr_f ((ndr_in (a := 1) (b := 30) (by omega) (by omega)).symm.trans c2)], FX.rf⟩)
    · skip
      replace c2 := of_decide_eq_false c2
      replace c2 := b2n.mp c2
      obtain ⟨n, hn, hna, hnb, rfl⟩ := ndr_t ((ndr_in (a := 1) (b := 30) (by omega) (by omega)).symm.trans c2)
      refine Pv.aload rfl rfl ?_
      refine Pv.getR (v := .ref t) rfl rfl (ht) ?_
      refine Pv.getI (z := Int32.ofNat (t_g T)) rfl rfl (hT.g) ?_
      refine Pv.if0 rfl (fun c3 => ?_) (fun c3 => ?_)
      · skip
        replace c3 : decide (Int32.ofNat (t_g T) = 0) = false := by simpa using c3
        replace c3 := mt (i_eq (a := t_g T) (b := 0) (by omega) (by omega)).mpr (of_decide_eq_false c3)
        have hg : 0 < t_g T := by omega
        refine Pv.lit rfl ?_
        refine Pv.istore (lo' := [some (.ref 0), some (.int (Int32.ofNat m)), some (.int (Int32.ofNat n)), some (.int z), some (.int 0), none]) rfl rfl ?_
        refine Pv.lit rfl ?_
        refine Pv.istore (lo' := [some (.ref 0), some (.int (Int32.ofNat m)), some (.int (Int32.ofNat n)), some (.int z), some (.int 0), some (.int 0)]) rfl rfl ?_
        refine Pv.lp (ι := Nat × Int32 × FW) (lof := fun ⟨k, b, G⟩ => [some (.ref 0), some (.int (Int32.ofNat m)), some (.int (Int32.ofNat n)), some (.int z), some (.int b), some (.int (Int32.ofNat k))]) (Ff := fun ⟨k, b, G⟩ => G) (P := fun ⟨k, b, G⟩ => FX (fun q => (7 ≤ q ∧ q ≤ 9) ∨ (20 ≤ q ∧ q ≤ 35) ∨ q = 40 ∨ q = 43) F G ∧ (k ≤ n) ∧ (b = m_cnt (fun i => decide (h_t S m < h_t (m_drawn T (S, z + Int32.ofNat i) 20).1 m)) k)) ?_ (0, 0, F) (⟨FX.rf, Nat.zero_le _, rfl⟩)
        rintro N4 hN5 ⟨k, b, G⟩ hi6 ih7
        refine (show Pv _ _ 35 [some (.ref 0), some (.int (Int32.ofNat m)), some (.int (Int32.ofNat n)), some (.int z), some (.int b), some (.int (Int32.ofNat k))] [] G Q from ?_)
        obtain ⟨hxG, hk, hb⟩ := hi6
        have hx8 := hT.fx (P := fun q => (7 ≤ q ∧ q ≤ 9) ∨ (20 ≤ q ∧ q ≤ 35) ∨ q = 40 ∨ q = 43) hxG (fun q h1 h2 (c : (7 ≤ q ∧ q ≤ 9) ∨ (20 ≤ q ∧ q ≤ 35) ∨ q = 40 ∨ q = 43) => by omega)
        have hx9 := hS.fx (P := fun q => (7 ≤ q ∧ q ≤ 9) ∨ (20 ≤ q ∧ q ≤ 35) ∨ q = 40 ∨ q = 43) hxG (fun q h1 h2 (c : (7 ≤ q ∧ q ≤ 9) ∨ (20 ≤ q ∧ q ≤ 35) ∨ q = 40 ∨ q = 43) => by omega)
        have hx10 := hG.fx (P := fun q => (7 ≤ q ∧ q ≤ 9) ∨ (20 ≤ q ∧ q ≤ 35) ∨ q = 40 ∨ q = 43) hxG
        have hx11 : G.2.1 0 13 = .ref t := by rw [hxG.2.2.1]; exact ht
        refine Pv.iloadS rfl rfl ?_
        refine Pv.iload rfl rfl ?_
        refine Pv.icmp rfl (fun c12 => ?_) (fun c12 => ?_)
        · skip
          replace c12 := (i_le (a := n) (b := k) (by omega) (by omega)).mp (of_decide_eq_true c12)
          refine Pv.iload rfl rfl ?_
          exact Pv.ret rfl (by rw [hQ]; exact ⟨by unfold a_odds; rw [hm]; dsimp only; rw [hn]; dsimp only; rw [if_neg (by omega), hb, show k = n by omega], hxG⟩)
        · skip
          replace c12 := mt (i_le (a := n) (b := k) (by omega) (by omega)).mpr (of_decide_eq_false c12)
          refine Pv.aload rfl rfl ?_
          refine Pv.getR (v := .ref 20) rfl rfl (GW.at (a := 0) (k := 5) (b := 20) hx10 (by decide)) ?_
          refine Pv.aload rfl rfl ?_
          refine Pv.getR (v := .ref 12) rfl rfl (GW.at (a := 0) (k := 4) (b := 12) hx10 (by decide)) ?_
          refine Pv.callV (as := [.ref 20, .ref 12]) (rest := []) rfl rfl rfl (f_shCopy (GW.o20 hx10) hx9 b3 (by omega)) ?_
          rintro _ G13 ⟨rfl, x14, sr16⟩
          have hx15 := FX.tr (P := fun q => (7 ≤ q ∧ q ≤ 9) ∨ (20 ≤ q ∧ q ≤ 35) ∨ q = 40 ∨ q = 43) hxG (x14.wd (fun q (c : 20 ≤ q ∧ q ≤ 20 + 7) => (show (7 ≤ q ∧ q ≤ 9) ∨ (20 ≤ q ∧ q ≤ 35) ∨ q = 40 ∨ q = 43 by omega)))
          have hx17 := hx8.fx (P := fun q => 20 ≤ q ∧ q ≤ 20 + 7) x14 (fun q h1 h2 (c : 20 ≤ q ∧ q ≤ 20 + 7) => by omega)
          have hx18 := hx9.fx (P := fun q => 20 ≤ q ∧ q ≤ 20 + 7) x14 (fun q h1 h2 (c : 20 ≤ q ∧ q ≤ 20 + 7) => by omega)
          have hx19 := hx10.fx (P := fun q => 20 ≤ q ∧ q ≤ 20 + 7) x14
          have hr20 : G13.2.1 0 13 = .ref t := by rw [x14.2.2.1]; exact hx11
          refine (show Pv _ _ 52 [some (.ref 0), some (.int (Int32.ofNat m)), some (.int (Int32.ofNat n)), some (.int z), some (.int b), some (.int (Int32.ofNat k))] [] G13 Q from ?_)
          refine Pv.aload rfl rfl ?_
          refine Pv.aload rfl rfl ?_
          refine Pv.getR (v := .ref 20) rfl rfl (GW.at (a := 0) (k := 5) (b := 20) hx19 (by decide)) ?_
          refine Pv.lit rfl ?_
          refine Pv.iload rfl rfl ?_
          refine Pv.iload rfl rfl ?_
          refine Pv.bin (z := z + (Int32.ofNat k)) rfl (rfl) ?_
          refine Pv.callV (as := [.ref 0, .ref 20, .int 20, .int (z + (Int32.ofNat k))]) (rest := []) rfl rfl rfl (f_drawDays (n := 20) (x := z + (Int32.ofNat k)) hx19 hr20 hx17 sr16 hg (by omega) (by omega) (by omega) (by omega) (by omega) (by omega)) ?_
          rintro _ G21 ⟨rfl, x22, sr24, hs25⟩
          have hx23 := FX.tr (P := fun q => (7 ≤ q ∧ q ≤ 9) ∨ (20 ≤ q ∧ q ≤ 35) ∨ q = 40 ∨ q = 43) hx15 (x22.wd (fun q (c : (20 ≤ q ∧ q ≤ 20 + 7) ∨ (7 ≤ q ∧ q ≤ 9) ∨ q = 40) => (show (7 ≤ q ∧ q ≤ 9) ∨ (20 ≤ q ∧ q ≤ 35) ∨ q = 40 ∨ q = 43 by omega)))
          have hx26 := hx17.fx (P := fun q => (20 ≤ q ∧ q ≤ 20 + 7) ∨ (7 ≤ q ∧ q ≤ 9) ∨ q = 40) x22 (fun q h1 h2 (c : (20 ≤ q ∧ q ≤ 20 + 7) ∨ (7 ≤ q ∧ q ≤ 9) ∨ q = 40) => by omega)
          have hx27 := hx18.fx (P := fun q => (20 ≤ q ∧ q ≤ 20 + 7) ∨ (7 ≤ q ∧ q ≤ 9) ∨ q = 40) x22 (fun q h1 h2 (c : (20 ≤ q ∧ q ≤ 20 + 7) ∨ (7 ≤ q ∧ q ≤ 9) ∨ q = 40) => by omega)
          have hx28 := hx19.fx (P := fun q => (20 ≤ q ∧ q ≤ 20 + 7) ∨ (7 ≤ q ∧ q ≤ 9) ∨ q = 40) x22
          have hr29 : G21.2.1 0 13 = .ref t := by rw [x22.2.2.1]; exact hr20
          refine (show Pv _ _ 66 [some (.ref 0), some (.int (Int32.ofNat m)), some (.int (Int32.ofNat n)), some (.int z), some (.int b), some (.int (Int32.ofNat k))] [.int (Int32.ofNat (h_d (m_drawn T (S, z + (Int32.ofNat k)) 20).1) - Int32.ofNat (h_d S))] G21 Q from ?_)
          refine Pv.pop rfl ?_
          refine Pv.aload rfl rfl ?_
          refine Pv.getR (v := .ref 20) rfl rfl (GW.at (a := 0) (k := 5) (b := 20) hx28 (by decide)) ?_
          refine Pv.getR (v := .ref 26) rfl rfl (sr24.o 5 (by decide)) ?_
          refine Pv.iload rfl rfl ?_
          refine Pv.ald (z := h_t (m_drawn T (S, z + (Int32.ofNat k)) 20).1 m) rfl (by rw [i_toNat (by omega)]; exact sr24.t _ (by omega)) ?_
          refine Pv.aload rfl rfl ?_
          refine Pv.getR (v := .ref 12) rfl rfl (GW.at (a := 0) (k := 4) (b := 12) hx28 (by decide)) ?_
          refine Pv.getR (v := .ref 18) rfl rfl (hx27.o 5 (by decide)) ?_
          refine Pv.iload rfl rfl ?_
          refine Pv.ald (z := h_t S m) rfl (by rw [i_toNat (by omega)]; exact hx27.t _ (by omega)) ?_
          refine Pv.icmp rfl (fun c30 => ?_) (fun c30 => ?_)
          · skip
            replace c30 := of_decide_eq_true c30
            refine Pv.iinc (y := Int32.ofNat (k + 1)) (lo' := [some (.ref 0), some (.int (Int32.ofNat m)), some (.int (Int32.ofNat n)), some (.int z), some (.int b), some (.int (Int32.ofNat (k + 1)))]) rfl rfl (i_add k 1) rfl ?_
            refine Pv.goto rfl ?_
            exact ih7 (k + 1, b, G21) (⟨hx23, by omega, by rw [hb]; exact (if_neg (fun q => absurd (of_decide_eq_true q) (Int32.not_lt.mpr c30))).symm⟩)
          · skip
            replace c30 := of_decide_eq_false c30
            refine Pv.iinc (y := b + 1) (lo' := [some (.ref 0), some (.int (Int32.ofNat m)), some (.int (Int32.ofNat n)), some (.int z), some (.int (b + 1)), some (.int (Int32.ofNat k))]) rfl rfl (rfl) rfl ?_
            refine Pv.iinc (y := Int32.ofNat (k + 1)) (lo' := [some (.ref 0), some (.int (Int32.ofNat m)), some (.int (Int32.ofNat n)), some (.int z), some (.int (b + 1)), some (.int (Int32.ofNat (k + 1)))]) rfl rfl (i_add k 1) rfl ?_
            refine Pv.goto rfl ?_
            exact ih7 (k + 1, b + 1, G21) (⟨hx23, by omega, by rw [hb]; exact (if_pos (decide_eq_true (Int32.not_le.mp c30))).symm⟩)
      · skip
        replace c3 : decide (Int32.ofNat (t_g T) = 0) = true := by simpa using c3
        replace c3 := (i_eq (a := t_g T) (b := 0) (by omega) (by omega)).mp (of_decide_eq_true c3)
        refine Pv.lit rfl ?_
        exact Pv.ret rfl (by rw [hQ]; exact ⟨by unfold a_odds; rw [hm]; dsimp only; rw [hn]; dsimp only; rw [if_pos (by omega)], FX.rf⟩)
