set_option maxRecDepth 100000 in
set_option maxHeartbeats 4000000 in
theorem o_st14 {F : FW} {K : Nat → TT} {mz t p u : Nat} (hG : GW F) (ht : F.2.1 0 13 = .ref t) (hp14 : F.2.1 0 14 = .ref p) (j0 : (t = 45 ∧ p = 53) ∨ (t = 53 ∧ p = 45)) (hu : F.2.1 0 15 = .ref u) (ju : u = 61 ∨ u = 65) (h12 : O7 F 12) (hO : O7 F p) (hL : F.2.2.2.2 (p + 4) = 48) (hT : TKF F K mz) (h4 : F.1 3 4 = Int32.ofNat 0) (h9 : F.1 3 9 = 0) (N : Nat) : Pv (ab_T (L_X10_strait Z_X8_moveInto Z_X7_readText Z_X6_beginAs Z_X2_forget)) N 14 [some (.ref 0), none, none] [] F (fun v F' => CSW F F' K t p u v) := by
  obtain ⟨Q, hQ⟩ : ∃ Q : Option Value → FW → Prop, Q = (fun v F' => CSW F F' K t p u v) := ⟨_, rfl⟩
  rw [← hQ]
  refine (show Pv (ab_T (L_X10_strait Z_X8_moveInto Z_X7_readText Z_X6_beginAs Z_X2_forget)) N 14 [some (.ref 0), none, none] [] F Q from ?_)
  refine Pv.aload rfl rfl ?_
  refine Pv.getR (v := .ref p) rfl rfl (hp14) ?_
  refine Pv.aload rfl rfl ?_
  refine Pv.getR (v := .ref 3) rfl rfl (GW.at (a := 0) (k := 1) (b := 3) hG (by decide)) ?_
  refine Pv.callV (as := [.ref p, .ref 3]) (rest := []) rfl rfl rfl (c_rtext hG hT h4 h9 (by omega) hO hL) ?_
  rintro v0 G hc
  obtain ⟨z, rfl⟩ := CTQ.i hc
  have gG := hc.1.G hG
  refine (show Pv _ _ 25 [some (.ref 0), none, none] [.int z] G Q from ?_)
  refine Pv.istore (lo' := [some (.ref 0), some (.int z), none]) rfl rfl ?_
  refine Pv.aload rfl rfl ?_
  refine Pv.aload rfl rfl ?_
  refine Pv.getR (v := .ref 3) rfl rfl (GW.at (a := 0) (k := 1) (b := 3) gG (by decide)) ?_
  refine Pv.getI (z := G.1 3 9) rfl rfl (rfl) ?_
  refine Pv.putI rfl rfl ?_
  refine Pv.aload rfl rfl ?_
  refine Pv.getI (z := G.1 3 9) rfl rfl (fp_eq) ?_
  refine Pv.if0 rfl (fun c1 => ?_) (fun c1 => ?_)
  · skip
    replace c1 := of_decide_eq_true c1
    obtain ⟨l, i, s, hl, hst, ez, sc⟩ := hc.ok c1
    refine Pv.aload rfl rfl ?_
    refine Pv.getR (v := .ref t) rfl rfl ((congrArg (fun z => z 0 13) hc.1.1.2.2.1).trans ht) ?_
    refine Pv.astore (lo' := [some (.ref 0), some (.int z), some (.ref t)]) rfl rfl ?_
    refine Pv.aload rfl rfl ?_
    refine Pv.aload rfl rfl ?_
    refine Pv.getR (v := .ref p) rfl rfl ((congrArg (fun z => z 0 14) hc.1.1.2.2.1).trans hp14) ?_
    refine Pv.putR rfl rfl (Or.inr ⟨_, rfl⟩) ?_
    refine Pv.aload rfl rfl ?_
    refine Pv.aload rfl rfl ?_
    refine Pv.putR rfl rfl (Or.inr ⟨_, rfl⟩) ?_
    refine Pv.aload rfl rfl ?_
    refine Pv.getR (v := .ref 12) rfl rfl ((fpr_ne (Or.inr (by decide))).trans ((fpr_ne (Or.inr (by decide))).trans (GW.at (a := 0) (k := 4) (b := 12) gG (by decide)))) ?_
    refine Pv.aload rfl rfl ?_
    refine Pv.getR (v := .ref p) rfl rfl ((fpr_ne (Or.inr (by decide))).trans (fpr_eq)) ?_
    have xH : CSF p u F (fpr (fpr (fp G 0 18 (G.1 3 9)) 0 13 (.ref p)) 0 14 (.ref t)) := (((CSF.fx hc.1.1).p (Or.inl ⟨rfl, rfl⟩)).r (Or.inl rfl)).r (Or.inr rfl)
    have gH := xH.G hG
    have sH : SCF (fpr (fpr (fp G 0 18 (G.1 3 9)) 0 13 (.ref p)) 0 14 (.ref t)) p s := sc.sm (fun k => (fpr_ne (Or.inl (by omega))).trans (fpr_ne (Or.inl (by omega)))) (fun a k h1 h2 => fp_ne (Or.inl (by omega))) (fun a k h1 h2 => rfl)
    have r13 : ((fpr (fpr (fp G 0 18 (G.1 3 9)) 0 13 (.ref p)) 0 14 (.ref t))).2.1 0 13 = .ref p := (fpr_ne (Or.inr (by decide))).trans fpr_eq
    have r14 : ((fpr (fpr (fp G 0 18 (G.1 3 9)) 0 13 (.ref p)) 0 14 (.ref t))).2.1 0 14 = .ref t := fpr_eq
    have i18 : ((fpr (fpr (fp G 0 18 (G.1 3 9)) 0 13 (.ref p)) 0 14 (.ref t))).1 0 18 = 0 := (show (fp G 0 18 (G.1 3 9)).1 0 18 = G.1 3 9 from fp_eq).trans c1
    obtain ⟨H1, hH1⟩ : ∃ H1 : FW, H1 = (fpr (fpr (fp G 0 18 (G.1 3 9)) 0 13 (.ref p)) 0 14 (.ref t)) := ⟨_, rfl⟩
    rw [← hH1] at xH gH sH r13 r14 i18
    rw [← hH1]
    refine Pv.callV (as := [.ref 12, .ref p]) (rest := []) rfl rfl rfl (f_beginAs (xH.O7 (by decide) h12) (xH.O7 (by omega) hO) (by omega)) ?_
    rintro _ G2 ⟨rfl, bf⟩
    have g2 := GW.fx gH bf.1
    refine (show Pv _ _ 83 [some (.ref 0), some (.int z), some (.ref t)] [] G2 Q from ?_)
    refine Pv.aload rfl rfl ?_
    refine Pv.getR (v := .ref u) rfl rfl ((congrArg (fun z => z 0 15) bf.1.2.2.1).trans ((xH.1 0 15 (by decide)).trans hu)) ?_
    refine Pv.lit rfl ?_
    refine Pv.putI rfl rfl ?_
    refine Pv.aload rfl rfl ?_
    refine Pv.getR (v := .ref 10) rfl rfl (GW.at (a := 0) (k := 3) (b := 10) g2 (by decide)) ?_
    refine Pv.callV (as := [.ref 10]) (rest := []) (Q' := (fun r F' => Pv (ab_T (L_X10_strait Z_X8_moveInto Z_X7_readText Z_X6_beginAs Z_X2_forget)) N 98 [some (.ref 0), some (.int z), some (.ref t)] (r.toList ++ []) F' Q)) rfl rfl rfl ?_ (fun r F' h => h)
    refine Pm.of fun N3 => ?_
    obtain ⟨Q2, hQ2⟩ : ∃ Qx : Option Value → FW → Prop, Qx = (fun r F' => Pv (ab_T (L_X10_strait Z_X8_moveInto Z_X7_readText Z_X6_beginAs Z_X2_forget)) N 98 [some (.ref 0), some (.int z), some (.ref t)] (r.toList ++ []) F' Q) := ⟨_, rfl⟩
    rw [← hQ2]
    refine (show Pv (ab_T L_X2_forget) N3 0 [some (.ref 10)] [] (fp G2 u 5 0) Q2 from ?_)
    refine Pv.aload rfl rfl ?_
    refine Pv.lit rfl ?_
    refine Pv.putI rfl rfl ?_
    refine Pv.vret rfl ?_
    rw [hQ2]
    refine (show Pv (ab_T (L_X10_strait Z_X8_moveInto Z_X7_readText Z_X6_beginAs Z_X2_forget)) N 98 [some (.ref 0), some (.int z), some (.ref t)] [] (fp (fp G2 u 5 0) 10 1 0) Q from ?_)
    refine Pv.iload rfl rfl ?_
    have xE : CSF p u F (fp (fp G2 u 5 0) 10 1 0) := ((xH.b bf.1).p (Or.inr (Or.inl ⟨rfl, rfl⟩))).p (Or.inr (Or.inr ⟨rfl, rfl⟩))
    have e2 : ∀ a k, a ≠ u → a ≠ 10 → ((fp (fp G2 u 5 0) 10 1 0)).1 a k = G2.1 a k := fun a k c1 c2 => (fp_ne (Or.inl c2)).trans (fp_ne (Or.inl c1))
    exact Pv.ret rfl (by rw [hQ]; exact ⟨l, i, s, hl, Or.inl ⟨hst, by rw [ez], (sH.sm (fun k => by rw [bf.1.2.2.1]) (fun a k c1 c2 => bf.1.1 a k (by omega)) (fun a k c1 c2 => bf.1.2.1 a k (by omega))).sm (fun _ => rfl) (fun a k c1 c2 => e2 a k (by omega) (by omega)) (fun _ _ _ _ => rfl), (bf.v (by omega)).o (fun a k c => e2 a k (by omega) (by omega)), (congrArg (fun z => z 0 13) bf.1.2.2.1).trans r13, (congrArg (fun z => z 0 14) bf.1.2.2.1).trans r14, (e2 0 18 (by omega) (by decide)).trans ((bf.1.1 0 18 (by decide)).trans i18), (fp_ne (Or.inl (by omega))).trans fp_eq, fp_eq, xE⟩⟩)
  · skip
    replace c1 := of_decide_eq_false c1
    refine Pv.lit rfl ?_
    refine Pv.aload rfl rfl ?_
    refine Pv.getR (v := .ref 3) rfl rfl (GW.at (a := 0) (k := 1) (b := 3) gG (by decide)) ?_
    refine Pv.getI (z := G.1 3 6) rfl rfl (fp_ne (Or.inl (by decide))) ?_
    refine Pv.bin (z := (-1) - (G.1 3 6)) rfl (rfl) ?_
    obtain ⟨l, i, s, f, j, hl, h1, h2, h3, h4⟩ := hc.bad c1
    exact Pv.ret rfl (by rw [hQ]; exact ⟨l, i, s, hl, Or.inr ⟨f, j, _, h1, h2, rfl, h4.2.1, (congrArg Int32.toInt fp_eq).trans h3, ((hc.1.1.wd fun q c => Or.inr c).fp (Or.inl rfl)), fun k hk => (fp_ne (Or.inr hk)).trans (hc.1.1.1 0 k (by omega))⟩⟩)
