set_option maxRecDepth 100000 in
set_option maxHeartbeats 4000000 in
theorem z_add {F : FW} {u z : Nat} (hO : O3 F u) (hz : F.1 u 3 = Int32.ofNat z) (h40 : z < 40) (a b c : Int32) : Pm Z_X5_addOp [.ref u, .int a, .int b, .int c] F (fun r F' => r = some (.int 1) ∧ F' = fp (fp (fp (fp F (u + 1) z a) (u + 2) z b) (u + 3) z c) u 3 (Int32.ofNat (z + 1))) := by
  refine Pm.of fun N => ?_
  obtain ⟨Q, hQ⟩ : ∃ Q : Option Value → FW → Prop, Q = (fun r F' => r = some (.int 1) ∧ F' = fp (fp (fp (fp F (u + 1) z a) (u + 2) z b) (u + 3) z c) u 3 (Int32.ofNat (z + 1))) := ⟨_, rfl⟩
  rw [← hQ]
  refine (show Pv (ab_T L_X5_addOp) N 0 [some (.ref u), some (.int a), some (.int b), some (.int c)] [] F Q from ?_)
  refine Pv.aload rfl rfl ?_
  refine Pv.getI (z := Int32.ofNat z) rfl rfl (hz) ?_
  refine Pv.lit rfl ?_
  refine Pv.icmp rfl (fun c1 => ?_) (fun c1 => ?_)
  · skip
    replace c1 := (i_lt (a := z) (b := 40) (by omega) (by omega)).mp (of_decide_eq_true c1)
    refine Pv.aload rfl rfl ?_
    refine Pv.getR (v := .ref (u + 1)) rfl rfl (hO 0 (by decide)) ?_
    refine Pv.aload rfl rfl ?_
    refine Pv.getI (z := Int32.ofNat z) rfl rfl (hz) ?_
    refine Pv.iload rfl rfl ?_
    refine Pv.astk (k := z) (z := a) rfl (i_toNat (by omega)) (rfl) ?_
    refine Pv.aload rfl rfl ?_
    refine Pv.getR (v := .ref (u + 2)) rfl rfl (hO 1 (by decide)) ?_
    refine Pv.aload rfl rfl ?_
    refine Pv.getI (z := Int32.ofNat z) rfl rfl ((fp_ne (Or.inl (by omega))).trans (hz)) ?_
    refine Pv.iload rfl rfl ?_
    refine Pv.astk (k := z) (z := b) rfl (i_toNat (by omega)) (rfl) ?_
    refine Pv.aload rfl rfl ?_
    refine Pv.getR (v := .ref (u + 3)) rfl rfl (hO 2 (by decide)) ?_
    refine Pv.aload rfl rfl ?_
    refine Pv.getI (z := Int32.ofNat z) rfl rfl ((fp_ne (Or.inl (by omega))).trans ((fp_ne (Or.inl (by omega))).trans (hz))) ?_
    refine Pv.iload rfl rfl ?_
    refine Pv.astk (k := z) (z := c) rfl (i_toNat (by omega)) (rfl) ?_
    refine Pv.aload rfl rfl ?_
    refine Pv.dup rfl ?_
    refine Pv.getI (z := Int32.ofNat z) rfl rfl ((fp_ne (Or.inl (by omega))).trans ((fp_ne (Or.inl (by omega))).trans ((fp_ne (Or.inl (by omega))).trans (hz)))) ?_
    refine Pv.lit rfl ?_
    refine Pv.bin (z := Int32.ofNat (z + 1)) rfl (i_add z 1) ?_
    refine Pv.putI rfl rfl ?_
    refine Pv.lit rfl ?_
    exact Pv.zret rfl (by rw [hQ]; exact ⟨rfl, rfl⟩)
  · skip
    replace c1 := mt (i_lt (a := z) (b := 40) (by omega) (by omega)).mpr (of_decide_eq_false c1)
    omega
