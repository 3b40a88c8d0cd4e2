set_option maxRecDepth 100000 in
set_option maxHeartbeats 4000000 in
theorem o_lg71 {F : FW} {t n nl j : Nat} {L : LN} {T : St} {S : Sh} {K : Nat → TT} {nm : Nat → Int} {H : Nat → Sh} {l : Int32} (hG : GW F) (ht : F.2.1 0 13 = .ref t) (hT : TR F t T) (j0 : t = 45 ∨ t = 53) (hS : SHR F 12 (t_m T) S) (hO : O7 F 20) (hH : HST F (t_m T) n H) (h88 : 88 ≤ F.2.2.2.1) (hl : l = 0 ∨ l = 1) (hA : LGA K nm (t_g T) (t_m T) nl L 0 j) (h36 : F.1 36 3 = Int32.ofNat nl) (hnl : nl ≤ 40) (hL : LNS F L nl) (N : Nat) : Pv (ab_T (L_X10_log Z_X8_moveInto Z_X4_readText Z_X6_copyFrom Z_X10_judgeLog Z_X6_hungerInAll Z_X2_keep)) N 71 [some (.ref 0), some (.int l), none] [] F (fun r F' => r = some (.int (oN (m_fst (jP T L S) nl))) ∧ KF LCP F F' ∧ (∀ k, F'.1 0 k = F.1 0 k) ∧ HK (decide (l = 1) && decide (0 < jn nl (m_fst (jP T L S) nl))) F' (t_m T) n H S ∧ SHR F' 12 (t_m T) (if l = 1 then (jr T L S (jn nl (m_fst (jP T L S) nl))) else S) ∧ LCF F' (jc T L S (m_fst (jP T L S) nl)) (jn nl (m_fst (jP T L S) nl)) S (jr T L S (jn nl (m_fst (jP T L S) nl)))) := by
  obtain ⟨Q, hQ⟩ : ∃ Q : Option Value → FW → Prop, Q = (fun r F' => r = some (.int (oN (m_fst (jP T L S) nl))) ∧ KF LCP F F' ∧ (∀ k, F'.1 0 k = F.1 0 k) ∧ HK (decide (l = 1) && decide (0 < jn nl (m_fst (jP T L S) nl))) F' (t_m T) n H S ∧ SHR F' 12 (t_m T) (if l = 1 then (jr T L S (jn nl (m_fst (jP T L S) nl))) else S) ∧ LCF F' (jc T L S (m_fst (jP T L S) nl)) (jn nl (m_fst (jP T L S) nl)) S (jr T L S (jn nl (m_fst (jP T L S) nl)))) := ⟨_, rfl⟩
  rw [← hQ]
  refine (show Pv (ab_T (L_X10_log Z_X8_moveInto Z_X4_readText Z_X6_copyFrom Z_X10_judgeLog Z_X6_hungerInAll Z_X2_keep)) N 71 [some (.ref 0), some (.int l), none] [] F Q from ?_)
  refine Pv.aload rfl rfl ?_
  refine Pv.getR (v := .ref 20) rfl rfl (GW.at (a := 0) (k := 5) (b := 20) hG (by decide)) ?_
  refine Pv.aload rfl rfl ?_
  refine Pv.getR (v := .ref 12) rfl rfl (GW.at (a := 0) (k := 4) (b := 12) hG (by decide)) ?_
  refine Pv.callV (as := [.ref 20, .ref 12]) (rest := []) rfl rfl rfl (f_shCopy hO hS hT.mb (Or.inr (by omega))) ?_
  rintro _ G ⟨rfl, x1, s20⟩
  have hG2 := GW.fx hG x1
  have hT2 := hT.fx x1 (fun q h1 h2 (c : 20 ≤ q ∧ q ≤ 27) => by omega)
  have s12 := hS.fx x1 (fun q h1 h2 (c : 20 ≤ q ∧ q ≤ 27) => by omega)
  refine (show Pv _ _ 82 [some (.ref 0), some (.int l), none] [] G Q from ?_)
  refine Pv.aload rfl rfl ?_
  refine Pv.callV (as := [.ref 0]) (rest := []) rfl rfl rfl (o_judgeLog hG2 ((congrArg (fun z => z 0 13) x1.2.2.1).trans ht) hT2 s20 j0 ((x1.1 36 3 (by decide)).trans h36) hnl (hL.e (fun a k c1 c2 => x1.1 a k (by omega))) (hA.ok hT.gb)) ?_
  rintro _ G2 ⟨rfl, y1, y2, y3, y4, y5⟩
  have hG3 := GW.fx hG2 y1
  have xB : FX (fun q => (20 ≤ q ∧ q ≤ 27) ∨ (7 ≤ q ∧ q ≤ 9) ∨ q = 44) F G2 := (x1.wd (fun q c => Or.inl c)).tr (y1.wd (fun q c => c))
  have s12b := hS.fx xB (fun q h1 h2 (c : (20 ≤ q ∧ q ≤ 27) ∨ (7 ≤ q ∧ q ≤ 9) ∨ q = 44) => by omega)
  refine (show Pv _ _ 86 [some (.ref 0), some (.int l), none] [.int (oN (m_fst (jP T L S) nl))] G2 Q from ?_)
  refine Pv.istore (lo' := [some (.ref 0), some (.int l), some (.int (oN (m_fst (jP T L S) nl)))]) rfl rfl ?_
  refine Pv.aload rfl rfl ?_
  refine Pv.getR (v := .ref 44) rfl rfl (GW.at (a := 0) (k := 12) (b := 44) hG3 (by decide)) ?_
  refine Pv.lit rfl ?_
  refine Pv.aload rfl rfl ?_
  refine Pv.getR (v := .ref 20) rfl rfl (GW.at (a := 0) (k := 5) (b := 20) hG3 (by decide)) ?_
  refine Pv.getI (z := Int32.ofNat (h_d (jr T L S (jn nl (m_fst (jP T L S) nl))))) rfl rfl (y2.d) ?_
  refine Pv.astk (k := 2) (z := Int32.ofNat (h_d (jr T L S (jn nl (m_fst (jP T L S) nl))))) rfl (rfl) (rfl) ?_
  refine Pv.aload rfl rfl ?_
  refine Pv.getR (v := .ref 44) rfl rfl (GW.at (a := 0) (k := 12) (b := 44) hG3 (by decide)) ?_
  refine Pv.lit rfl ?_
  refine Pv.aload rfl rfl ?_
  refine Pv.getR (v := .ref 20) rfl rfl (GW.at (a := 0) (k := 5) (b := 20) hG3 (by decide)) ?_
  refine Pv.callVI (as := [.ref 20]) (rest := [.int 3, .ref 44]) (z := m_sum (h_u (jr T L S (jn nl (m_fst (jP T L S) nl)))) 12) rfl rfl rfl (f_hungerInAll (SHR.fx (P := fun q => q = 44) y2 (FX.rf.fp rfl) (fun q h1 h2 (c : q = 44) => by omega))) ?_
  refine Pv.aload rfl rfl ?_
  refine Pv.getR (v := .ref 12) rfl rfl (GW.at (a := 0) (k := 4) (b := 12) hG3 (by decide)) ?_
  refine Pv.callVI (as := [.ref 12]) (rest := [.int (m_sum (h_u (jr T L S (jn nl (m_fst (jP T L S) nl)))) 12), .int 3, .ref 44]) (z := m_sum (h_u S) 12) rfl rfl rfl (f_hungerInAll (SHR.fx (P := fun q => q = 44) s12b (FX.rf.fp rfl) (fun q h1 h2 (c : q = 44) => by omega))) ?_
  refine Pv.bin (z := (m_sum (h_u (jr T L S (jn nl (m_fst (jP T L S) nl)))) 12) - (m_sum (h_u S) 12)) rfl (rfl) ?_
  refine Pv.astk (k := 3) (z := (m_sum (h_u (jr T L S (jn nl (m_fst (jP T L S) nl)))) 12) - (m_sum (h_u S) 12)) rfl (rfl) (rfl) ?_
  have x44 : FX (fun q => q = 44) G2 (fp (fp G2 44 2 (Int32.ofNat (h_d (jr T L S (jn nl (m_fst (jP T L S) nl)))))) 44 3 ((m_sum (h_u (jr T L S (jn nl (m_fst (jP T L S) nl)))) 12) - (m_sum (h_u S) 12))) := FX.fp (P := fun q => q = 44) (FX.fp (P := fun q => q = 44) FX.rf rfl) rfl
  have xC : FX (fun q => (20 ≤ q ∧ q ≤ 27) ∨ (7 ≤ q ∧ q ≤ 9) ∨ q = 44) F (fp (fp G2 44 2 (Int32.ofNat (h_d (jr T L S (jn nl (m_fst (jP T L S) nl)))))) 44 3 ((m_sum (h_u (jr T L S (jn nl (m_fst (jP T L S) nl)))) 12) - (m_sum (h_u S) 12))) := xB.tr (x44.wd (fun q c => Or.inr (Or.inr c)))
  have f1 : LCF (fp (fp G2 44 2 (Int32.ofNat (h_d (jr T L S (jn nl (m_fst (jP T L S) nl)))))) 44 3 ((m_sum (h_u (jr T L S (jn nl (m_fst (jP T L S) nl)))) 12) - (m_sum (h_u S) 12))) (jc T L S (m_fst (jP T L S) nl)) (jn nl (m_fst (jP T L S) nl)) S (jr T L S (jn nl (m_fst (jP T L S) nl))) := ⟨((fp_ne (Or.inr (by decide))).trans (fp_ne (Or.inr (by decide)))).trans y3, ((fp_ne (Or.inr (by decide))).trans (fp_ne (Or.inr (by decide)))).trans y4, (fp_ne (Or.inr (by decide))).trans (fp_eq), fp_eq⟩
  have s20c := SHR.fx (P := fun q => q = 44) y2 x44 (fun q h1 h2 (c : q = 44) => by omega)
  have s12c := SHR.fx (P := fun q => q = 44) s12b x44 (fun q h1 h2 (c : q = 44) => by omega)
  have hH3 := hH.fx xC (fun q (c : (20 ≤ q ∧ q ≤ 27) ∨ (7 ≤ q ∧ q ≤ 9) ∨ q = 44) => by omega)
  have h883 : 88 ≤ ((fp (fp G2 44 2 (Int32.ofNat (h_d (jr T L S (jn nl (m_fst (jP T L S) nl)))))) 44 3 ((m_sum (h_u (jr T L S (jn nl (m_fst (jP T L S) nl)))) 12) - (m_sum (h_u S) 12)))).2.2.2.1 := by rw [xC.2.2.2]; exact h88
  refine Pv.imp (o_lg121 (GW.fx hG3 x44) hT.mb s12c s20c hH3 h883 f1.2.1 (Nat.le_trans jn_le hnl) (fun e => by rw [e]; rfl) hl _) ?_
  rintro r F' ⟨e, k1, k2, k3⟩
  rw [hQ]
  exact ⟨e, (KF.rf.fx (R := fun q => (20 ≤ q ∧ q ≤ 27) ∨ (7 ≤ q ∧ q ≤ 9) ∨ q = 44) xC (fun q _ c => lcp_b c)).tr (k1.wd (fun q c => lcp_s c)), fun k => ((k1.2.2.1 0 (by omega) (by omega) (by omega) (hH3.ns (by omega))).1 k (by omega)).trans (xC.1 0 k (by decide)), k2, k3, f1.of (fun k => (k1.2.2.1 44 (by omega) (by omega) (by omega) (hH3.ns (by omega))).1 k (by omega))⟩
