set_option maxRecDepth 100000 in
set_option maxHeartbeats 4000000 in
theorem f_stCopy {F : FW} {p r : Nat} {T : St} {nm : Nat → Int} (hp : O7 F p) (hT : TR F r T) (hN : NMC F r T nm) (hd : p + 7 < r ∨ r + 7 < p) : Pm Z_X7_copyFrom [.ref p, .ref r] F (fun r' F' => r' = none ∧ FX (fun q => p ≤ q ∧ q ≤ p + 7) F F' ∧ TR F' p T ∧ NMC F' p T nm) := by
  refine Pm.of fun N => ?_
  obtain ⟨Q, hQ⟩ : ∃ Q : Option Value → FW → Prop, Q = (fun r' F' => r' = none ∧ FX (fun q => p ≤ q ∧ q ≤ p + 7) F F' ∧ TR F' p T ∧ NMC F' p T nm) := ⟨_, rfl⟩
  rw [← hQ]
  have b3 := hT.mb
  have b4 := hT.nb
  have b5 := hT.gb
  refine (show Pv (ab_T L_X7_copyFrom) N 0 [some (.ref p), some (.ref r)] [] F Q from ?_)
  refine Pv.aload rfl rfl ?_
  refine Pv.getR (v := .ref (r + 1)) rfl rfl (hT.o 0 (by decide)) ?_
  refine Pv.lit rfl ?_
  refine Pv.aload rfl rfl ?_
  refine Pv.getR (v := .ref (p + 1)) rfl rfl (hp 0 (by decide)) ?_
  refine Pv.lit rfl ?_
  refine Pv.lit rfl ?_
  refine Pv.copy rfl ?_
  refine (show Pv _ _ 15 [some (.ref p), some (.ref r)] [] (fcp F (r + 1) (p + 1) 0 0 6) Q from ?_)
  refine Pv.aload rfl rfl ?_
  refine Pv.getR (v := .ref (r + 2)) rfl rfl (hT.o 1 (by decide)) ?_
  refine Pv.lit rfl ?_
  refine Pv.aload rfl rfl ?_
  refine Pv.getR (v := .ref (p + 2)) rfl rfl (hp 1 (by decide)) ?_
  refine Pv.lit rfl ?_
  refine Pv.lit rfl ?_
  refine Pv.copy rfl ?_
  refine (show Pv _ _ 30 [some (.ref p), some (.ref r)] [] (fcp (fcp F (r + 1) (p + 1) 0 0 6) (r + 2) (p + 2) 0 0 8) Q from ?_)
  refine Pv.aload rfl rfl ?_
  refine Pv.getR (v := .ref (r + 3)) rfl rfl (hT.o 2 (by decide)) ?_
  refine Pv.lit rfl ?_
  refine Pv.aload rfl rfl ?_
  refine Pv.getR (v := .ref (p + 3)) rfl rfl (hp 2 (by decide)) ?_
  refine Pv.lit rfl ?_
  refine Pv.lit rfl ?_
  refine Pv.copy rfl ?_
  refine (show Pv _ _ 45 [some (.ref p), some (.ref r)] [] (fcp (fcp (fcp F (r + 1) (p + 1) 0 0 6) (r + 2) (p + 2) 0 0 8) (r + 3) (p + 3) 0 0 8) Q from ?_)
  refine Pv.aload rfl rfl ?_
  refine Pv.getR (v := .ref (r + 4)) rfl rfl (hT.o 3 (by decide)) ?_
  refine Pv.lit rfl ?_
  refine Pv.aload rfl rfl ?_
  refine Pv.getR (v := .ref (p + 4)) rfl rfl (hp 3 (by decide)) ?_
  refine Pv.lit rfl ?_
  refine Pv.lit rfl ?_
  refine Pv.copy rfl ?_
  refine (show Pv _ _ 60 [some (.ref p), some (.ref r)] [] (fcp (fcp (fcp (fcp F (r + 1) (p + 1) 0 0 6) (r + 2) (p + 2) 0 0 8) (r + 3) (p + 3) 0 0 8) (r + 4) (p + 4) 0 0 48) Q from ?_)
  refine Pv.aload rfl rfl ?_
  refine Pv.getR (v := .ref (r + 5)) rfl rfl (hT.o 4 (by decide)) ?_
  refine Pv.lit rfl ?_
  refine Pv.aload rfl rfl ?_
  refine Pv.getR (v := .ref (p + 5)) rfl rfl (hp 4 (by decide)) ?_
  refine Pv.lit rfl ?_
  refine Pv.lit rfl ?_
  refine Pv.copy rfl ?_
  refine (show Pv _ _ 75 [some (.ref p), some (.ref r)] [] (fcp (fcp (fcp (fcp (fcp F (r + 1) (p + 1) 0 0 6) (r + 2) (p + 2) 0 0 8) (r + 3) (p + 3) 0 0 8) (r + 4) (p + 4) 0 0 48) (r + 5) (p + 5) 0 0 20) Q from ?_)
  refine Pv.aload rfl rfl ?_
  refine Pv.getR (v := .ref (r + 6)) rfl rfl (hT.o 5 (by decide)) ?_
  refine Pv.lit rfl ?_
  refine Pv.aload rfl rfl ?_
  refine Pv.getR (v := .ref (p + 6)) rfl rfl (hp 5 (by decide)) ?_
  refine Pv.lit rfl ?_
  refine Pv.lit rfl ?_
  refine Pv.copy rfl ?_
  refine (show Pv _ _ 90 [some (.ref p), some (.ref r)] [] (fcp (fcp (fcp (fcp (fcp (fcp F (r + 1) (p + 1) 0 0 6) (r + 2) (p + 2) 0 0 8) (r + 3) (p + 3) 0 0 8) (r + 4) (p + 4) 0 0 48) (r + 5) (p + 5) 0 0 20) (r + 6) (p + 6) 0 0 20) Q from ?_)
  refine Pv.aload rfl rfl ?_
  refine Pv.getR (v := .ref (r + 7)) rfl rfl (hT.o 6 (by decide)) ?_
  refine Pv.lit rfl ?_
  refine Pv.aload rfl rfl ?_
  refine Pv.getR (v := .ref (p + 7)) rfl rfl (hp 6 (by decide)) ?_
  refine Pv.lit rfl ?_
  refine Pv.lit rfl ?_
  refine Pv.copy rfl ?_
  refine (show Pv _ _ 105 [some (.ref p), some (.ref r)] [] (fcp (fcp (fcp (fcp (fcp (fcp (fcp F (r + 1) (p + 1) 0 0 6) (r + 2) (p + 2) 0 0 8) (r + 3) (p + 3) 0 0 8) (r + 4) (p + 4) 0 0 48) (r + 5) (p + 5) 0 0 20) (r + 6) (p + 6) 0 0 20) (r + 7) (p + 7) 0 0 20) Q from ?_)
  refine Pv.aload rfl rfl ?_
  refine Pv.aload rfl rfl ?_
  refine Pv.getI (z := t_l T) rfl rfl ((fcp_ne (by omega)).trans ((fcp_ne (by omega)).trans ((fcp_ne (by omega)).trans ((fcp_ne (by omega)).trans ((fcp_ne (by omega)).trans ((fcp_ne (by omega)).trans ((fcp_ne (by omega)).trans (hT.l)))))))) ?_
  refine Pv.putI rfl rfl ?_
  refine Pv.aload rfl rfl ?_
  refine Pv.aload rfl rfl ?_
  refine Pv.getI (z := Int32.ofNat (t_g T)) rfl rfl ((fp_ne (Or.inl (by omega))).trans ((fcp_ne (by omega)).trans ((fcp_ne (by omega)).trans ((fcp_ne (by omega)).trans ((fcp_ne (by omega)).trans ((fcp_ne (by omega)).trans ((fcp_ne (by omega)).trans ((fcp_ne (by omega)).trans (hT.g))))))))) ?_
  refine Pv.putI rfl rfl ?_
  refine Pv.aload rfl rfl ?_
  refine Pv.aload rfl rfl ?_
  refine Pv.getI (z := Int32.ofNat (t_m T)) rfl rfl ((fp_ne (Or.inl (by omega))).trans ((fp_ne (Or.inl (by omega))).trans ((fcp_ne (by omega)).trans ((fcp_ne (by omega)).trans ((fcp_ne (by omega)).trans ((fcp_ne (by omega)).trans ((fcp_ne (by omega)).trans ((fcp_ne (by omega)).trans ((fcp_ne (by omega)).trans (hT.m)))))))))) ?_
  refine Pv.putI rfl rfl ?_
  refine Pv.aload rfl rfl ?_
  refine Pv.aload rfl rfl ?_
  refine Pv.getI (z := Int32.ofNat (t_n T)) rfl rfl ((fp_ne (Or.inl (by omega))).trans ((fp_ne (Or.inl (by omega))).trans ((fp_ne (Or.inl (by omega))).trans ((fcp_ne (by omega)).trans ((fcp_ne (by omega)).trans ((fcp_ne (by omega)).trans ((fcp_ne (by omega)).trans ((fcp_ne (by omega)).trans ((fcp_ne (by omega)).trans ((fcp_ne (by omega)).trans (hT.n))))))))))) ?_
  refine Pv.putI rfl rfl ?_
  exact Pv.vret rfl (by rw [hQ]; exact ⟨rfl, ((((((((((((FX.rf (P := fun q => p ≤ q ∧ q ≤ p + 7))).fcp (show p ≤ (p + 1) ∧ (p + 1) ≤ p + 7 by omega)).fcp (show p ≤ (p + 2) ∧ (p + 2) ≤ p + 7 by omega)).fcp (show p ≤ (p + 3) ∧ (p + 3) ≤ p + 7 by omega)).fcp (show p ≤ (p + 4) ∧ (p + 4) ≤ p + 7 by omega)).fcp (show p ≤ (p + 5) ∧ (p + 5) ≤ p + 7 by omega)).fcp (show p ≤ (p + 6) ∧ (p + 6) ≤ p + 7 by omega)).fcp (show p ≤ (p + 7) ∧ (p + 7) ≤ p + 7 by omega)).fp (show p ≤ p ∧ p ≤ p + 7 by omega)).fp (show p ≤ p ∧ p ≤ p + 7 by omega)).fp (show p ≤ p ∧ p ≤ p + 7 by omega)).fp (show p ≤ p ∧ p ≤ p + 7 by omega), ⟨hp, hT.w, (fp_ne (Or.inr (by decide))).trans ((fp_ne (Or.inr (by decide))).trans ((fp_ne (Or.inr (by decide))).trans (fp_eq))), (fp_ne (Or.inr (by decide))).trans ((fp_ne (Or.inr (by decide))).trans (fp_eq)), (fp_ne (Or.inr (by decide))).trans (fp_eq), fp_eq, (((((((((((hT.a).cn (by omega)).cn (by omega)).cn (by omega)).cp (by omega)).cn (by omega)).cn (by omega)).cn (by omega)).ne (by omega)).ne (by omega)).ne (by omega)).ne (by omega), (((((((((((hT.r).cn (by omega)).cn (by omega)).cn (by omega)).cn (by omega)).cp (by omega)).cn (by omega)).cn (by omega)).ne (by omega)).ne (by omega)).ne (by omega)).ne (by omega), (((((((((((hT.d).cn (by omega)).cn (by omega)).cn (by omega)).cn (by omega)).cn (by omega)).cp (by omega)).cn (by omega)).ne (by omega)).ne (by omega)).ne (by omega)).ne (by omega), (((((((((((hT.dd).cn (by omega)).cn (by omega)).cn (by omega)).cn (by omega)).cn (by omega)).cn (by omega)).cp (by omega)).ne (by omega)).ne (by omega)).ne (by omega)).ne (by omega), (((((((((((hT.f).cn (by omega)).cn (by omega)).cp (by omega)).cn (by omega)).cn (by omega)).cn (by omega)).cn (by omega)).ne (by omega)).ne (by omega)).ne (by omega)).ne (by omega)⟩, fun g hg => by rw [show ((fp (fp (fp (fp (fcp (fcp (fcp (fcp (fcp (fcp (fcp F (r + 1) (p + 1) 0 0 6) (r + 2) (p + 2) 0 0 8) (r + 3) (p + 3) 0 0 8) (r + 4) (p + 4) 0 0 48) (r + 5) (p + 5) 0 0 20) (r + 6) (p + 6) 0 0 20) (r + 7) (p + 7) 0 0 20) p 7 (t_l T)) p 8 (Int32.ofNat (t_g T))) p 9 (Int32.ofNat (t_m T))) p 10 (Int32.ofNat (t_n T)))).2.2.1 (p + 1) g = F.2.2.1 (r + 1) g from (fp_l).trans ((fp_l).trans ((fp_l).trans ((fp_l).trans ((fcp_lne (by omega)).trans ((fcp_lne (by omega)).trans ((fcp_lne (by omega)).trans ((fcp_lne (by omega)).trans ((fcp_lne (by omega)).trans ((fcp_lne (by omega)).trans (fcp_l0 (by omega)))))))))))]; exact hN.1 g hg, fun g hg => by rw [show ((fp (fp (fp (fp (fcp (fcp (fcp (fcp (fcp (fcp (fcp F (r + 1) (p + 1) 0 0 6) (r + 2) (p + 2) 0 0 8) (r + 3) (p + 3) 0 0 8) (r + 4) (p + 4) 0 0 48) (r + 5) (p + 5) 0 0 20) (r + 6) (p + 6) 0 0 20) (r + 7) (p + 7) 0 0 20) p 7 (t_l T)) p 8 (Int32.ofNat (t_g T))) p 9 (Int32.ofNat (t_m T))) p 10 (Int32.ofNat (t_n T)))).2.2.1 (p + 2) g = F.2.2.1 (r + 2) g from (fp_l).trans ((fp_l).trans ((fp_l).trans ((fp_l).trans ((fcp_lne (by omega)).trans ((fcp_lne (by omega)).trans ((fcp_lne (by omega)).trans ((fcp_lne (by omega)).trans ((fcp_lne (by omega)).trans ((fcp_l0 (by omega)).trans (fcp_lne (by omega)))))))))))]; exact hN.2 g hg⟩)
set_option maxRecDepth 100000 in
set_option maxHeartbeats 4000000 in
theorem f_seCopy {F : FW} {p r : Nat} {E : Se} (hp : O3 F p) (hS : SE F r E) (hd : p + 3 < r ∨ r + 3 < p) : Pm Z_X5_copyFrom [.ref p, .ref r] F (fun r' F' => r' = none ∧ FX (fun q => p ≤ q ∧ q ≤ p + 3) F F' ∧ SE F' p E) := by
  refine Pm.of fun N => ?_
  obtain ⟨Q, hQ⟩ : ∃ Q : Option Value → FW → Prop, Q = (fun r' F' => r' = none ∧ FX (fun q => p ≤ q ∧ q ≤ p + 3) F F' ∧ SE F' p E) := ⟨_, rfl⟩
  rw [← hQ]
  refine (show Pv (ab_T L_X5_copyFrom) N 0 [some (.ref p), some (.ref r)] [] F Q from ?_)
  refine Pv.aload rfl rfl ?_
  refine Pv.getR (v := .ref (r + 1)) rfl rfl (hS.o 0 (by decide)) ?_
  refine Pv.lit rfl ?_
  refine Pv.aload rfl rfl ?_
  refine Pv.getR (v := .ref (p + 1)) rfl rfl (hp 0 (by decide)) ?_
  refine Pv.lit rfl ?_
  refine Pv.lit rfl ?_
  refine Pv.copy rfl ?_
  refine (show Pv _ _ 15 [some (.ref p), some (.ref r)] [] (fcp F (r + 1) (p + 1) 0 0 40) Q from ?_)
  refine Pv.aload rfl rfl ?_
  refine Pv.getR (v := .ref (r + 2)) rfl rfl (hS.o 1 (by decide)) ?_
  refine Pv.lit rfl ?_
  refine Pv.aload rfl rfl ?_
  refine Pv.getR (v := .ref (p + 2)) rfl rfl (hp 1 (by decide)) ?_
  refine Pv.lit rfl ?_
  refine Pv.lit rfl ?_
  refine Pv.copy rfl ?_
  refine (show Pv _ _ 30 [some (.ref p), some (.ref r)] [] (fcp (fcp F (r + 1) (p + 1) 0 0 40) (r + 2) (p + 2) 0 0 40) Q from ?_)
  refine Pv.aload rfl rfl ?_
  refine Pv.getR (v := .ref (r + 3)) rfl rfl (hS.o 2 (by decide)) ?_
  refine Pv.lit rfl ?_
  refine Pv.aload rfl rfl ?_
  refine Pv.getR (v := .ref (p + 3)) rfl rfl (hp 2 (by decide)) ?_
  refine Pv.lit rfl ?_
  refine Pv.lit rfl ?_
  refine Pv.copy rfl ?_
  refine (show Pv _ _ 45 [some (.ref p), some (.ref r)] [] (fcp (fcp (fcp F (r + 1) (p + 1) 0 0 40) (r + 2) (p + 2) 0 0 40) (r + 3) (p + 3) 0 0 40) Q from ?_)
  refine Pv.aload rfl rfl ?_
  refine Pv.aload rfl rfl ?_
  refine Pv.getI (z := E.1) rfl rfl ((fcp_ne (by omega)).trans ((fcp_ne (by omega)).trans ((fcp_ne (by omega)).trans (hS.z)))) ?_
  refine Pv.putI rfl rfl ?_
  refine Pv.aload rfl rfl ?_
  refine Pv.aload rfl rfl ?_
  refine Pv.getI (z := E.2.1) rfl rfl ((fp_ne (Or.inl (by omega))).trans ((fcp_ne (by omega)).trans ((fcp_ne (by omega)).trans ((fcp_ne (by omega)).trans (hS.n))))) ?_
  refine Pv.putI rfl rfl ?_
  refine Pv.aload rfl rfl ?_
  refine Pv.aload rfl rfl ?_
  refine Pv.getI (z := E.2.2.1) rfl rfl ((fp_ne (Or.inl (by omega))).trans ((fp_ne (Or.inl (by omega))).trans ((fcp_ne (by omega)).trans ((fcp_ne (by omega)).trans ((fcp_ne (by omega)).trans (hS.i)))))) ?_
  refine Pv.putI rfl rfl ?_
  exact Pv.vret rfl (by rw [hQ]; exact ⟨rfl, (((((((FX.rf (P := fun q => p ≤ q ∧ q ≤ p + 3))).fcp (show p ≤ (p + 1) ∧ (p + 1) ≤ p + 3 by omega)).fcp (show p ≤ (p + 2) ∧ (p + 2) ≤ p + 3 by omega)).fcp (show p ≤ (p + 3) ∧ (p + 3) ≤ p + 3 by omega)).fp (show p ≤ p ∧ p ≤ p + 3 by omega)).fp (show p ≤ p ∧ p ≤ p + 3 by omega)).fp (show p ≤ p ∧ p ≤ p + 3 by omega), hp, (fp_ne (Or.inr (by decide))).trans ((fp_ne (Or.inr (by decide))).trans (fp_eq)), (fp_ne (Or.inr (by decide))).trans (fp_eq), fp_eq, ((((((hS.a).cp (by omega)).cn (by omega)).cn (by omega)).ne (by omega)).ne (by omega)).ne (by omega), ((((((hS.f).cn (by omega)).cp (by omega)).cn (by omega)).ne (by omega)).ne (by omega)).ne (by omega), ((((((hS.m).cn (by omega)).cn (by omega)).cp (by omega)).ne (by omega)).ne (by omega)).ne (by omega)⟩)
