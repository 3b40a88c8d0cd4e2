set_option maxRecDepth 100000 in
set_option maxHeartbeats 4000000 in
theorem r_code {F : FW} {z : Nat} (hG : GW F) (hz : F.1 69 34 = Int32.ofNat z) (hz6 : z ≤ 60) (a b c : Int32) : Pm Z_X11_code [.ref 69, .int a, .int b, .int c] F (fun r F' => r = none ∧ F' = fp (fp (fp (fp F 73 (3 * z) a) 73 (3 * z + 1) b) 73 (3 * z + 2) c) 69 34 (Int32.ofNat (z + 1))) := by
  refine Pm.of fun N => ?_
  obtain ⟨Q, hQ⟩ : ∃ Q : Option Value → FW → Prop, Q = (fun r F' => r = none ∧ F' = fp (fp (fp (fp F 73 (3 * z) a) 73 (3 * z + 1) b) 73 (3 * z + 2) c) 69 34 (Int32.ofNat (z + 1))) := ⟨_, rfl⟩
  rw [← hQ]
  refine (show Pv (ab_T L_X11_code) N 0 [some (.ref 69), some (.int a), some (.int b), some (.int c)] [] F Q from ?_)
  refine Pv.aload rfl rfl ?_
  refine Pv.getR (v := .ref 73) rfl rfl (GW.at (a := 69) (k := 8) (b := 73) hG (by decide)) ?_
  refine Pv.lit rfl ?_
  refine Pv.aload rfl rfl ?_
  refine Pv.getI (z := Int32.ofNat z) rfl rfl (hz) ?_
  refine Pv.bin (z := Int32.ofNat (3 * z)) rfl (i_mul 3 z) ?_
  refine Pv.iload rfl rfl ?_
  refine Pv.astk (k := 3 * z) (z := a) rfl (i_toNat (by omega)) (rfl) ?_
  refine Pv.aload rfl rfl ?_
  refine Pv.getR (v := .ref 73) rfl rfl (GW.at (a := 69) (k := 8) (b := 73) hG (by decide)) ?_
  refine Pv.lit rfl ?_
  refine Pv.aload rfl rfl ?_
  refine Pv.getI (z := Int32.ofNat z) rfl rfl ((fp_ne (Or.inl (by decide))).trans (hz)) ?_
  refine Pv.bin (z := Int32.ofNat (3 * z)) rfl (i_mul 3 z) ?_
  refine Pv.lit rfl ?_
  refine Pv.bin (z := Int32.ofNat ((3 * z) + 1)) rfl (i_add (3 * z) 1) ?_
  refine Pv.iload rfl rfl ?_
  refine Pv.astk (k := (3 * z) + 1) (z := b) rfl (i_toNat (by omega)) (rfl) ?_
  refine Pv.aload rfl rfl ?_
  refine Pv.getR (v := .ref 73) rfl rfl (GW.at (a := 69) (k := 8) (b := 73) hG (by decide)) ?_
  refine Pv.lit rfl ?_
  refine Pv.aload rfl rfl ?_
  refine Pv.getI (z := Int32.ofNat z) rfl rfl ((fp_ne (Or.inl (by decide))).trans ((fp_ne (Or.inl (by decide))).trans (hz))) ?_
  refine Pv.bin (z := Int32.ofNat (3 * z)) rfl (i_mul 3 z) ?_
  refine Pv.lit rfl ?_
  refine Pv.bin (z := Int32.ofNat ((3 * z) + 2)) rfl (i_add (3 * z) 2) ?_
  refine Pv.iload rfl rfl ?_
  refine Pv.astk (k := (3 * z) + 2) (z := c) rfl (i_toNat (by omega)) (rfl) ?_
  refine Pv.aload rfl rfl ?_
  refine Pv.dup rfl ?_
  refine Pv.getI (z := Int32.ofNat z) rfl rfl ((fp_ne (Or.inl (by decide))).trans ((fp_ne (Or.inl (by decide))).trans ((fp_ne (Or.inl (by decide))).trans (hz)))) ?_
  refine Pv.lit rfl ?_
  refine Pv.bin (z := Int32.ofNat (z + 1)) rfl (i_add z 1) ?_
  refine Pv.putI rfl rfl ?_
  exact Pv.vret rfl (by rw [hQ]; exact ⟨rfl, rfl⟩)
set_option maxRecDepth 100000 in
set_option maxHeartbeats 4000000 in
theorem r_taken {F : FW} {tn : Nat} (h2 : F.1 69 2 = Int32.ofNat tn) (l : Int32) : Pm Z_X11_taken [.ref 69, .int l] F (fun r F' => r = none ∧ F' = fp (fp (fp (fp F 69 3 (Int32.ofNat tn)) 69 2 0) 69 4 0) 69 5 l) := by
  refine Pm.of fun N => ?_
  obtain ⟨Q, hQ⟩ : ∃ Q : Option Value → FW → Prop, Q = (fun r F' => r = none ∧ F' = fp (fp (fp (fp F 69 3 (Int32.ofNat tn)) 69 2 0) 69 4 0) 69 5 l) := ⟨_, rfl⟩
  rw [← hQ]
  refine (show Pv (ab_T L_X11_taken) N 0 [some (.ref 69), some (.int l)] [] F Q from ?_)
  refine Pv.aload rfl rfl ?_
  refine Pv.aload rfl rfl ?_
  refine Pv.getI (z := Int32.ofNat tn) rfl rfl (h2) ?_
  refine Pv.putI rfl rfl ?_
  refine Pv.aload rfl rfl ?_
  refine Pv.lit rfl ?_
  refine Pv.putI rfl rfl ?_
  refine Pv.aload rfl rfl ?_
  refine Pv.lit rfl ?_
  refine Pv.putI rfl rfl ?_
  refine Pv.aload rfl rfl ?_
  refine Pv.iload rfl rfl ?_
  refine Pv.putI rfl rfl ?_
  exact Pv.vret rfl (by rw [hQ]; exact ⟨rfl, rfl⟩)
