set_option maxRecDepth 100000 in
set_option maxHeartbeats 4000000 in
theorem r_lg270 {F F0 : FW} {m p : Nat} {S : Sh} {H : Nat → Sh} {a : Int32} {o2 : Option Value} (hm8 : m ≤ 8) (hG : GW F) (hH : HSX F m (p + 1) H) (hS0 : XS F0 m S) (h78 : ∀ k, k < 133 → F.1 78 k = F0.1 71 (120 + k)) (N : Nat) : Pv (ab_T (L_X11_log Z_X11_isIn Z_X11_taken Z_X11_next Z_X11_logLine Z_X11_sign Z_X11_tries Z_X11_does Z_X11_keep Z_X11_back)) N 270 [some (.ref 69), some (.int 1), o2, some (.int a), some (.int (Int32.ofNat 0))] [] F (fun r F' => r = some (.int a) ∧ FX (fun q => q = 77) F F' ∧ HSX F' m (p + 1) (fun j => if j < p then H j else S)) := by
  obtain ⟨Q, hQ⟩ : ∃ Q : Option Value → FW → Prop, Q = (fun r F' => r = some (.int a) ∧ FX (fun q => q = 77) F F' ∧ HSX F' m (p + 1) (fun j => if j < p then H j else S)) := ⟨_, rfl⟩
  rw [← hQ]
  have hp8 := hH.2.1
  refine (show Pv (ab_T (L_X11_log Z_X11_isIn Z_X11_taken Z_X11_next Z_X11_logLine Z_X11_sign Z_X11_tries Z_X11_does Z_X11_keep Z_X11_back)) N 270 [some (.ref 69), some (.int 1), o2, some (.int a), some (.int (Int32.ofNat 0))] [] F Q from ?_)
  refine Pv.lp (ι := Nat × FW) (lof := fun ⟨k, G⟩ => [some (.ref 69), some (.int 1), o2, some (.int a), some (.int (Int32.ofNat k))]) (Ff := fun ⟨k, G⟩ => G) (P := fun ⟨k, G⟩ => (k ≤ 133) ∧ (FX (fun q => q = 77) F G) ∧ (∀ j, j < k → G.1 77 (133 * p + j) = F.1 78 j) ∧ (∀ j, j < 133 * p → G.1 77 j = F.1 77 j)) ?_ (0, F) (⟨Nat.zero_le _, FX.rf, fun j hj => absurd hj (Nat.not_lt_zero j), fun _ _ => rfl⟩)
  rintro N1 hN2 ⟨k, G⟩ hi3 ih4
  refine (show Pv _ _ 270 [some (.ref 69), some (.int 1), o2, some (.int a), some (.int (Int32.ofNat k))] [] G Q from ?_)
  obtain ⟨hk, hx, hA, hB⟩ := hi3
  have hx5 := GW.fx hG hx
  refine Pv.iloadS rfl rfl ?_
  refine Pv.lit rfl ?_
  refine Pv.icmp rfl (fun c6 => ?_) (fun c6 => ?_)
  · skip
    replace c6 := (i_le (a := 133) (b := k) (by omega) (by omega)).mp (of_decide_eq_true c6)
    refine Pv.iload rfl rfl ?_
    refine Pv.if0 rfl (fun c7 => ?_) (fun c7 => ?_)
    · skip
      replace c7 : decide ((1 : Int32) = 0) = false := by simpa using c7
      replace c7 := mt (i_eq (a := 1) (b := 0) (by omega) (by omega)).mpr (of_decide_eq_false c7)
      refine Pv.iload rfl rfl ?_
      have k133 : k = 133 := by omega
      refine Pv.ret rfl ?_
      rw [hQ]
      refine ⟨rfl, hx, (hx.1 69 25 (by decide)).trans hH.1, hH.2.1, fun j hj => ?_⟩
      dsimp only
      rcases Nat.lt_or_ge j p with q | q
      · rw [if_pos q]
        exact HSX.row hm8 (hH.2.2 j (by omega)) fun i hi => hB _ (by omega)
      · rw [if_neg (by omega)]
        obtain rfl : j = p := by omega
        exact HSX.put hm8 hS0 fun i hi => (hA i (by omega)).trans (h78 i hi)
    · skip
      replace c7 : decide ((1 : Int32) = 0) = true := by simpa using c7
      replace c7 := (i_eq (a := 1) (b := 0) (by omega) (by omega)).mp (of_decide_eq_true c7)
      omega
  · skip
    replace c6 := mt (i_le (a := 133) (b := k) (by omega) (by omega)).mpr (of_decide_eq_false c6)
    refine Pv.aload rfl rfl ?_
    refine Pv.getR (v := .ref 77) rfl rfl (GW.at (a := 69) (k := 23) (b := 77) hx5 (by decide)) ?_
    refine Pv.lit rfl ?_
    refine Pv.aload rfl rfl ?_
    refine Pv.getI (z := Int32.ofNat (p + 1)) rfl rfl ((hx.1 69 25 (by decide)).trans hH.1) ?_
    refine Pv.lit rfl ?_
    refine Pv.bin (z := Int32.ofNat p) rfl (i_subN (a := p + 1) (b := 1) (by omega)) ?_
    refine Pv.bin (z := Int32.ofNat (133 * p)) rfl (i_mul 133 p) ?_
    refine Pv.iload rfl rfl ?_
    refine Pv.bin (z := Int32.ofNat ((133 * p) + k)) rfl (i_add (133 * p) k) ?_
    refine Pv.aload rfl rfl ?_
    refine Pv.getR (v := .ref 78) rfl rfl (GW.at (a := 69) (k := 24) (b := 78) hx5 (by decide)) ?_
    refine Pv.iload rfl rfl ?_
    refine Pv.ald (z := F.1 78 k) rfl (by rw [i_toNat (by omega)]; exact hx.1 78 _ (by decide)) ?_
    refine Pv.astk (k := (133 * p) + k) (z := F.1 78 k) rfl (i_toNat (by omega)) (rfl) ?_
    refine Pv.iinc (y := Int32.ofNat (k + 1)) (lo' := [some (.ref 69), some (.int 1), o2, some (.int a), some (.int (Int32.ofNat (k + 1)))]) rfl rfl (i_add k 1) rfl ?_
    refine Pv.goto rfl ?_
    exact ih4 (k + 1, (fp G 77 ((133 * p) + k) (F.1 78 k))) (⟨by omega, hx.fp rfl, fun j hj => Or.elim (Classical.em (j = k)) (fun e => by rw [e]; exact fp_eq) (fun e => (fp_ne (Or.inr (by omega))).trans (hA j (by omega))), fun j hj => (fp_ne (Or.inr (by omega))).trans (hB j hj)⟩)
