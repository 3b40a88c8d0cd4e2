set_option maxRecDepth 100000 in
set_option maxHeartbeats 4000000 in
theorem o_movePrices {F : FW} {t : Nat} {T : St} {S : Sh} {f : Nat → Int32} (hG : GW F) (ht : F.2.1 0 13 = .ref t) (hT : TR F t T) (hA : SHR F 20 (t_m T) S) (hf : AR F 42 12 f) (j0 : t = 45 ∨ t = 53) : Pm Z_X10_movePrices [.ref 0] F (fun r F' => r = some (.int (b2i (m_pM T S f (2 * t_g T)))) ∧ FX (fun q => q = 42) F F' ∧ AR F' 42 12 (m_pI T S f (2 * t_g T))) := by
  refine Pm.of fun N => ?_
  obtain ⟨Q, hQ⟩ : ∃ Q : Option Value → FW → Prop, Q = (fun r F' => r = some (.int (b2i (m_pM T S f (2 * t_g T)))) ∧ FX (fun q => q = 42) F F' ∧ AR F' 42 12 (m_pI T S f (2 * t_g T))) := ⟨_, rfl⟩
  rw [← hQ]
  have b5 := hT.gb
  refine (show Pv (ab_T (L_X10_movePrices Z_X7_amountOf)) N 0 [some (.ref 0), none, none, none] [] F Q from ?_)
  refine Pv.lit rfl ?_
  refine Pv.istore (lo' := [some (.ref 0), some (.int 0), none, none]) rfl rfl ?_
  refine Pv.lit rfl ?_
  refine Pv.istore (lo' := [some (.ref 0), some (.int 0), some (.int 0), none]) rfl rfl ?_
  refine Pv.lp (ι := Nat × Int32 × FW × (Option Value)) (lof := fun ⟨k, b, G, o1⟩ => [some (.ref 0), some (.int b), some (.int (Int32.ofNat k)), o1]) (Ff := fun ⟨k, b, G, o1⟩ => G) (P := fun ⟨k, b, G, o1⟩ => (k ≤ 2 * t_g T) ∧ (FX (fun q => q = 42) F G) ∧ (AR G 42 12 (m_pI T S f k)) ∧ (b = b2i (m_pM T S f k))) ?_ (0, 0, F, none) (⟨Nat.zero_le _, FX.rf, hf, rfl⟩)
  rintro N2 hN3 ⟨k, b, G, o1⟩ hi4 ih5
  refine (show Pv _ _ 4 [some (.ref 0), some (.int b), some (.int (Int32.ofNat k)), o1] [] G Q from ?_)
  obtain ⟨hk, hxG, hP, hm⟩ := hi4
  have hx6 := hT.fx (P := fun q => q = 42) hxG (fun q h1 h2 (c : q = 42) => by omega)
  have hx7 := hA.fx (P := fun q => q = 42) hxG (fun q h1 h2 (c : q = 42) => by omega)
  have hx8 := hG.fx (P := fun q => q = 42) hxG
  have hr0 : G.2.1 0 13 = .ref t := by rw [hxG.2.2.1]; exact ht
  refine Pv.iloadS rfl rfl ?_
  refine Pv.lit rfl ?_
  refine Pv.aload rfl rfl ?_
  refine Pv.getR (v := .ref t) rfl rfl (hr0) ?_
  refine Pv.getI (z := Int32.ofNat (t_g T)) rfl rfl (hx6.g) ?_
  refine Pv.bin (z := Int32.ofNat (2 * (t_g T))) rfl (i_mul 2 (t_g T)) ?_
  refine Pv.icmp rfl (fun c9 => ?_) (fun c9 => ?_)
  · skip
    replace c9 := (i_le (a := 2 * (t_g T)) (b := k) (by omega) (by omega)).mp (of_decide_eq_true c9)
    refine Pv.iload rfl rfl ?_
    exact Pv.zret rfl (by rw [hQ]; exact ⟨by rw [hm, show k = 2 * t_g T by omega], hxG, hP.eq (congrArg (m_pI T S f) (by omega))⟩)
  · skip
    replace c9 := mt (i_le (a := 2 * (t_g T)) (b := k) (by omega) (by omega)).mpr (of_decide_eq_false c9)
    refine Pv.aload rfl rfl ?_
    refine Pv.getR (v := .ref t) rfl rfl (hr0) ?_
    refine Pv.lit rfl ?_
    refine Pv.iload rfl rfl ?_
    refine Pv.callVI (as := [.ref t, .int 1, .int (Int32.ofNat k)]) (rest := []) (z := t_a T (1 * 12 + k)) rfl rfl rfl (f_amountOf (s := 1) (k := k) hx6 (by omega)) ?_
    refine Pv.istore (lo' := [some (.ref 0), some (.int b), some (.int (Int32.ofNat k)), some (.int (t_a T (1 * 12 + k)))]) rfl rfl ?_
    refine Pv.aload rfl rfl ?_
    refine Pv.getR (v := .ref 20) rfl rfl (GW.at (a := 0) (k := 5) (b := 20) hx8 (by decide)) ?_
    refine Pv.getR (v := .ref 21) rfl rfl (hx7.o 0 (by decide)) ?_
    refine Pv.iload rfl rfl ?_
    refine Pv.ald (z := h_s S k) rfl (by rw [i_toNat (by omega)]; exact hx7.s _ (by omega)) ?_
    refine Pv.iload rfl rfl ?_
    refine Pv.icmp rfl (fun c10 => ?_) (fun c10 => ?_)
    · skip
      replace c10 := of_decide_eq_true c10
      refine Pv.aload rfl rfl ?_
      refine Pv.getR (v := .ref 20) rfl rfl (GW.at (a := 0) (k := 5) (b := 20) hx8 (by decide)) ?_
      refine Pv.getR (v := .ref 21) rfl rfl (hx7.o 0 (by decide)) ?_
      refine Pv.iload rfl rfl ?_
      refine Pv.ald (z := h_s S k) rfl (by rw [i_toNat (by omega)]; exact hx7.s _ (by omega)) ?_
      refine Pv.iload rfl rfl ?_
      refine Pv.icmp rfl (fun c11 => ?_) (fun c11 => ?_)
      · skip
        replace c11 := of_decide_eq_true c11
        refine Pv.iinc (y := Int32.ofNat (k + 1)) (lo' := [some (.ref 0), some (.int b), some (.int (Int32.ofNat (k + 1))), some (.int (t_a T (1 * 12 + k)))]) rfl rfl (i_add k 1) rfl ?_
        refine Pv.goto rfl ?_
        exact ih5 (k + 1, b, G, (some (.int (t_a T (1 * 12 + k))))) (⟨by omega, hxG, (hP).eq (((if_neg (Int32.not_lt.mpr c10)).trans (if_neg (fun q => Int32.not_le.mpr q.1 c11))).symm), by show _ = b2i (m_pM T S f k || (decide (h_s S k < t_a T (1 * 12 + k)) || (decide (t_a T (1 * 12 + k) < h_s S k) && decide (0 < m_pI T S f k k)))); rw [decide_eq_false (Int32.not_lt.mpr c10), decide_eq_false (Int32.not_lt.mpr c11), Bool.false_and, Bool.or_false, Bool.or_false]; exact hm⟩)
      · skip
        replace c11 := of_decide_eq_false c11
        refine Pv.aload rfl rfl ?_
        refine Pv.getR (v := .ref 42) rfl rfl (GW.at (a := 0) (k := 10) (b := 42) hx8 (by decide)) ?_
        refine Pv.iload rfl rfl ?_
        refine Pv.ald (z := (m_pI T S f k) k) rfl (by rw [i_toNat (by omega)]; exact hP _ (by omega)) ?_
        refine Pv.if0 rfl (fun c12 => ?_) (fun c12 => ?_)
        · skip
          replace c12 := of_decide_eq_true c12
          refine Pv.iinc (y := Int32.ofNat (k + 1)) (lo' := [some (.ref 0), some (.int b), some (.int (Int32.ofNat (k + 1))), some (.int (t_a T (1 * 12 + k)))]) rfl rfl (i_add k 1) rfl ?_
          refine Pv.goto rfl ?_
          exact ih5 (k + 1, b, G, (some (.int (t_a T (1 * 12 + k))))) (⟨by omega, hxG, (hP).eq (((if_neg (Int32.not_lt.mpr c10)).trans (if_neg (fun q => Int32.not_le.mpr q.2 c12))).symm), by show _ = b2i (m_pM T S f k || (decide (h_s S k < t_a T (1 * 12 + k)) || (decide (t_a T (1 * 12 + k) < h_s S k) && decide (0 < m_pI T S f k k)))); rw [decide_eq_false (Int32.not_lt.mpr c10), decide_eq_false (Int32.not_lt.mpr c12), Bool.and_false, Bool.or_false, Bool.or_false]; exact hm⟩)
        · skip
          replace c12 := of_decide_eq_false c12
          refine Pv.aload rfl rfl ?_
          refine Pv.getR (v := .ref 42) rfl rfl (GW.at (a := 0) (k := 10) (b := 42) hx8 (by decide)) ?_
          refine Pv.iload rfl rfl ?_
          refine Pv.dup2 rfl ?_
          refine Pv.ald (z := (m_pI T S f k) k) rfl (by rw [i_toNat (by omega)]; exact hP _ (by omega)) ?_
          refine Pv.lit rfl ?_
          refine Pv.bin (z := ((m_pI T S f k) k) - 1) rfl (rfl) ?_
          refine Pv.astk (k := k) (z := ((m_pI T S f k) k) - 1) rfl (i_toNat (by omega)) (rfl) ?_
          refine Pv.lit rfl ?_
          refine Pv.istore (lo' := [some (.ref 0), some (.int 1), some (.int (Int32.ofNat k)), some (.int (t_a T (1 * 12 + k)))]) rfl rfl ?_
          refine Pv.iinc (y := Int32.ofNat (k + 1)) (lo' := [some (.ref 0), some (.int 1), some (.int (Int32.ofNat (k + 1))), some (.int (t_a T (1 * 12 + k)))]) rfl rfl (i_add k 1) rfl ?_
          refine Pv.goto rfl ?_
          exact ih5 (k + 1, 1, (fp G 42 k (((m_pI T S f k) k) - 1)), (some (.int (t_a T (1 * 12 + k))))) (⟨by omega, (hxG).fp (show 42 = 42 by omega), ((hP).up).eq (((if_neg (Int32.not_lt.mpr c10)).trans (if_pos ⟨Int32.not_le.mp c11, Int32.not_le.mp c12⟩)).symm), by show _ = b2i (m_pM T S f k || (decide (h_s S k < t_a T (1 * 12 + k)) || (decide (t_a T (1 * 12 + k) < h_s S k) && decide (0 < m_pI T S f k k)))); rw [decide_eq_true (Int32.not_le.mp c11), decide_eq_true (Int32.not_le.mp c12), Bool.and_true, Bool.or_true, Bool.or_true]; rfl⟩)
    · skip
      replace c10 := of_decide_eq_false c10
      refine Pv.aload rfl rfl ?_
      refine Pv.getR (v := .ref 42) rfl rfl (GW.at (a := 0) (k := 10) (b := 42) hx8 (by decide)) ?_
      refine Pv.iload rfl rfl ?_
      refine Pv.dup2 rfl ?_
      refine Pv.ald (z := (m_pI T S f k) k) rfl (by rw [i_toNat (by omega)]; exact hP _ (by omega)) ?_
      refine Pv.lit rfl ?_
      refine Pv.bin (z := ((m_pI T S f k) k) + 1) rfl (rfl) ?_
      refine Pv.astk (k := k) (z := ((m_pI T S f k) k) + 1) rfl (i_toNat (by omega)) (rfl) ?_
      refine Pv.lit rfl ?_
      refine Pv.istore (lo' := [some (.ref 0), some (.int 1), some (.int (Int32.ofNat k)), some (.int (t_a T (1 * 12 + k)))]) rfl rfl ?_
      refine Pv.goto rfl ?_
      refine Pv.iinc (y := Int32.ofNat (k + 1)) (lo' := [some (.ref 0), some (.int 1), some (.int (Int32.ofNat (k + 1))), some (.int (t_a T (1 * 12 + k)))]) rfl rfl (i_add k 1) rfl ?_
      refine Pv.goto rfl ?_
      exact ih5 (k + 1, 1, (fp G 42 k (((m_pI T S f k) k) + 1)), (some (.int (t_a T (1 * 12 + k))))) (⟨by omega, (hxG).fp (show 42 = 42 by omega), ((hP).up).eq ((if_pos (Int32.not_le.mp c10)).symm), by show _ = b2i (m_pM T S f k || (decide (h_s S k < t_a T (1 * 12 + k)) || (decide (t_a T (1 * 12 + k) < h_s S k) && decide (0 < m_pI T S f k k)))); rw [decide_eq_true (Int32.not_le.mp c10), Bool.true_or, Bool.or_true]; rfl⟩)
