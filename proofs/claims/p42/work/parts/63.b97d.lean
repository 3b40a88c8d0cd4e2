set_option maxRecDepth 100000 in
set_option maxHeartbeats 4000000 in
theorem o_lg27 {F : FW} {t n tm : Nat} {T : St} {S : Sh} {K : Nat → TT} {nm : Nat → Int} {H : Nat → Sh} {l : Int32} (hG : GW F) (ht : F.2.1 0 13 = .ref t) (hT : TR F t T) (j0 : t = 45 ∨ t = 53) (hS : SHR F 12 (t_m T) S) (hO : O7 F 20) (hH : HST F (t_m T) n H) (h88 : 88 ≤ F.2.2.2.1) (hl : l = 0 ∨ l = 1) (hN : NMC F t T nm) (hK : TKF F K tm) (h4 : F.1 3 4 = Int32.ofNat 0) (h9 : F.1 3 9 = 0) (N : Nat) : Pv (ab_T (L_X10_log Z_X8_moveInto Z_X4_readText Z_X6_copyFrom Z_X10_judgeLog Z_X6_hungerInAll Z_X2_keep)) N 27 [some (.ref 0), some (.int l), none] [] F (fun r F' => LCW F F' K T S nm n H l r) := by
  obtain ⟨Q, hQ⟩ : ∃ Q : Option Value → FW → Prop, Q = (fun r F' => LCW F F' K T S nm n H l r) := ⟨_, rfl⟩
  rw [← hQ]
  refine (show Pv (ab_T (L_X10_log Z_X8_moveInto Z_X4_readText Z_X6_copyFrom Z_X10_judgeLog Z_X6_hungerInAll Z_X2_keep)) N 27 [some (.ref 0), some (.int l), none] [] F Q from ?_)
  refine Pv.aload rfl rfl ?_
  refine Pv.getR (v := .ref 36) rfl rfl (GW.at (a := 0) (k := 7) (b := 36) hG (by decide)) ?_
  refine Pv.aload rfl rfl ?_
  refine Pv.getR (v := .ref 3) rfl rfl (GW.at (a := 0) (k := 1) (b := 3) hG (by decide)) ?_
  refine Pv.aload rfl rfl ?_
  refine Pv.getR (v := .ref t) rfl rfl (ht) ?_
  refine Pv.callV (as := [.ref 36, .ref 3, .ref t]) (rest := []) rfl rfl rfl (c_readText hG hK h4 h9 hT hN (by omega)) ?_
  rintro _ G ⟨rfl, ⟨x1, x36⟩, nl, L, c, j, hA, hc0, hn40, h9c, hcu⟩
  have hG2 := GW.fx hG x1
  refine (show Pv _ _ 42 [some (.ref 0), some (.int l), none] [] G Q from ?_)
  refine Pv.aload rfl rfl ?_
  refine Pv.aload rfl rfl ?_
  refine Pv.getR (v := .ref 3) rfl rfl (GW.at (a := 0) (k := 1) (b := 3) hG2 (by decide)) ?_
  refine Pv.getI (z := c) rfl rfl (h9c) ?_
  refine Pv.putI rfl rfl ?_
  refine Pv.aload rfl rfl ?_
  refine Pv.getI (z := c) rfl rfl (fp_eq) ?_
  refine Pv.if0 rfl (fun c1 => ?_) (fun c1 => ?_)
  · skip
    replace c1 := of_decide_eq_true c1
    have e0 : c = 0 := c1
    obtain ⟨h36, hL⟩ := hc0 e0
    have hA0 : LGA K nm (t_g T) (t_m T) nl L 0 j := by rw [← e0]; exact hA
    have xC : FX (fun q => q = 0 ∨ q = 3 ∨ (36 ≤ q ∧ q ≤ 39)) F (fp G 0 18 c) := (x1.wd (fun q c => Or.inr c)).fp (Or.inl rfl)
    have ht3 : ((fp G 0 18 c)).2.1 0 13 = .ref t := (congrArg (fun z => z 0 13) xC.2.2.1).trans ht
    refine Pv.imp (o_lg71 (GW.fx hG xC) ht3 (hT.fx xC (fun q h1 h2 (c : q = 0 ∨ q = 3 ∨ (36 ≤ q ∧ q ≤ 39)) => by omega)) j0 (hS.fx xC (fun q h1 h2 (c : q = 0 ∨ q = 3 ∨ (36 ≤ q ∧ q ≤ 39)) => by omega)) (xC.O7 hO) (hH.fx xC (fun q (c : q = 0 ∨ q = 3 ∨ (36 ≤ q ∧ q ≤ 39)) => by omega)) (by rw [xC.2.2.2]; exact h88) hl hA0 ((fp_ne (Or.inl (by decide))).trans h36) hn40 (hL.e (fun a k c1 c2 => fp_ne (Or.inl (by omega)))) _) ?_
    rintro r F' ⟨e, k1, k2, k3, k4, k5⟩
    rw [hQ]
    exact ⟨(KF.rf.fx xC (fun q _ c => lcp_r c)).tr k1, fun k hk => (k2 k).trans ((fp_ne (Or.inr hk)).trans (x1.1 0 k (by decide))), Or.inl ⟨nl, L, j, hA0, e, (k2 18).trans (fp_eq.trans e0), k3, k4, k5⟩⟩
  · skip
    replace c1 := of_decide_eq_false c1
    refine Pv.lit rfl ?_
    refine Pv.aload rfl rfl ?_
    refine Pv.getR (v := .ref 3) rfl rfl (GW.at (a := 0) (k := 1) (b := 3) hG2 (by decide)) ?_
    refine Pv.getI (z := G.1 3 6) rfl rfl (fp_ne (Or.inl (by decide))) ?_
    refine Pv.bin (z := (-2) - (G.1 3 6)) rfl (rfl) ?_
    have xC : FX (fun q => q = 0 ∨ q = 3 ∨ (36 ≤ q ∧ q ≤ 39)) F (fp G 0 18 c) := (x1.wd (fun q c => Or.inr c)).fp (Or.inl rfl)
    exact Pv.ret rfl (by rw [hQ]; exact ⟨KF.rf.fx xC (fun q _ c => lcp_r c), fun k hk => (fp_ne (Or.inr hk)).trans (x1.1 0 k (by decide)), Or.inr ⟨_, rfl, hH.fx xC (fun q (c : q = 0 ∨ q = 3 ∨ (36 ≤ q ∧ q ≤ 39)) => by omega), hS.fx xC (fun q h1 h2 (c : q = 0 ∨ q = 3 ∨ (36 ≤ q ∧ q ≤ 39)) => by omega), fun k => xC.1 44 k (by decide), nl, L, c, j, hA, c1, fp_eq, hcu.2.1⟩⟩)
