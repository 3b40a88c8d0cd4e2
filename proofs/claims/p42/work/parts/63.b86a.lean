set_option maxRecDepth 100000 in
set_option maxHeartbeats 4000000 in
theorem o_judgeLog {F : FW} {t n : Nat} {T : St} {S : Sh} {L : LN} (hG : GW F) (ht : F.2.1 0 13 = .ref t) (hT : TR F t T) (hS : SHR F 20 (t_m T) S) (j0 : t = 45 ∨ t = 53) (h36 : F.1 36 3 = Int32.ofNat n) (hn : n ≤ 40) (hN : LNS F L n) (hK : ∀ l, l < n → LYK T (L l)) : Pm Z_X10_judgeLog [.ref 0] F (fun r F' => r = some (.int (oN (m_fst (jP T L S) n))) ∧ FX (fun q => (20 ≤ q ∧ q ≤ 27) ∨ (7 ≤ q ∧ q ≤ 9) ∨ q = 44) F F' ∧ SHR F' 20 (t_m T) (jr T L S (jn n (m_fst (jP T L S) n))) ∧ F'.1 44 0 = jc T L S (m_fst (jP T L S) n) ∧ F'.1 44 1 = Int32.ofNat (jn n (m_fst (jP T L S) n)) ∧ ∀ j, j ≠ 0 → j ≠ 1 → F'.1 44 j = F.1 44 j) := by
  refine Pm.of fun N => ?_
  obtain ⟨Q, hQ⟩ : ∃ Q : Option Value → FW → Prop, Q = (fun r F' => r = some (.int (oN (m_fst (jP T L S) n))) ∧ FX (fun q => (20 ≤ q ∧ q ≤ 27) ∨ (7 ≤ q ∧ q ≤ 9) ∨ q = 44) F F' ∧ SHR F' 20 (t_m T) (jr T L S (jn n (m_fst (jP T L S) n))) ∧ F'.1 44 0 = jc T L S (m_fst (jP T L S) n) ∧ F'.1 44 1 = Int32.ofNat (jn n (m_fst (jP T L S) n)) ∧ ∀ j, j ≠ 0 → j ≠ 1 → F'.1 44 j = F.1 44 j) := ⟨_, rfl⟩
  rw [← hQ]
  refine (show Pv (ab_T (L_X10_judgeLog Z_X10_liveLine)) N 0 [some (.ref 0), none, none] [] F Q from ?_)
  refine Pv.lit rfl ?_
  refine Pv.istore (lo' := [some (.ref 0), some (.int 0), none]) rfl rfl ?_
  refine Pv.lp (ι := Nat × FW × (Option Value)) (lof := fun ⟨k, G, o1⟩ => [some (.ref 0), some (.int (Int32.ofNat k)), o1]) (Ff := fun ⟨k, G, o1⟩ => G) (P := fun ⟨k, G, o1⟩ => (k ≤ n) ∧ (FX (fun q => (20 ≤ q ∧ q ≤ 27) ∨ (7 ≤ q ∧ q ≤ 9)) F G) ∧ (SHR G 20 (t_m T) (jr T L S k)) ∧ (m_fst (jP T L S) k = none)) ?_ (0, F, none) (⟨Nat.zero_le _, FX.rf, hS, rfl⟩)
  rintro N2 hN3 ⟨k, G, o1⟩ hi4 ih5
  refine (show Pv _ _ 2 [some (.ref 0), some (.int (Int32.ofNat k)), o1] [] G Q from ?_)
  obtain ⟨hk, hx, hSk, hb⟩ := hi4
  have gw := hG.fx hx
  refine Pv.iloadS rfl rfl ?_
  refine Pv.aload rfl rfl ?_
  refine Pv.getR (v := .ref 36) rfl rfl (GW.at (a := 0) (k := 7) (b := 36) gw (by decide)) ?_
  refine Pv.getI (z := Int32.ofNat n) rfl rfl ((hx.1 36 3 (by decide)).trans h36) ?_
  refine Pv.icmp rfl (fun c6 => ?_) (fun c6 => ?_)
  · skip
    replace c6 := (i_le (a := n) (b := k) (by omega) (by omega)).mp (of_decide_eq_true c6)
    refine Pv.aload rfl rfl ?_
    refine Pv.getR (v := .ref 44) rfl rfl (GW.at (a := 0) (k := 12) (b := 44) gw (by decide)) ?_
    refine Pv.lit rfl ?_
    refine Pv.lit rfl ?_
    refine Pv.astk (k := 0) (z := 0) rfl (rfl) (rfl) ?_
    refine Pv.aload rfl rfl ?_
    refine Pv.getR (v := .ref 44) rfl rfl (GW.at (a := 0) (k := 12) (b := 44) gw (by decide)) ?_
    refine Pv.lit rfl ?_
    refine Pv.aload rfl rfl ?_
    refine Pv.getR (v := .ref 36) rfl rfl (GW.at (a := 0) (k := 7) (b := 36) gw (by decide)) ?_
    refine Pv.getI (z := Int32.ofNat n) rfl rfl ((fp_ne (Or.inl (by decide))).trans ((hx.1 36 3 (by decide)).trans h36)) ?_
    refine Pv.astk (k := 1) (z := Int32.ofNat n) rfl (rfl) (rfl) ?_
    refine Pv.lit rfl ?_
    have en : m_fst (jP T L S) n = none := by rw [show n = k by omega]; exact hb
    have ek : k = n := by omega
    exact Pv.ret rfl (by rw [hQ]; exact ⟨by rw [en]; rfl, ((hx.wd (P' := fun q => (20 ≤ q ∧ q ≤ 27) ∨ (7 ≤ q ∧ q ≤ 9) ∨ q = 44) (fun q c => c.elim Or.inl (fun e => Or.inr (Or.inl e)))).fp (Or.inr (Or.inr rfl))).fp (Or.inr (Or.inr rfl)), by rw [en]; show SHR _ 20 (t_m T) (jr T L S n); rw [← ek]; exact (SHR.fx (P := fun q => q = 44) hSk (((FX.rf (P := fun q => q = 44)).fp rfl).fp rfl) (fun q h1 h2 (c : q = 44) => by omega)), by rw [en]; exact (fp_ne (Or.inr (by decide))).trans fp_eq, by rw [en]; exact fp_eq, fun j h0 h1 => (fp_ne (Or.inr h1)).trans ((fp_ne (Or.inr h0)).trans (hx.1 44 j (by decide)))⟩)
  · skip
    replace c6 := mt (i_le (a := n) (b := k) (by omega) (by omega)).mpr (of_decide_eq_false c6)
    have hlt : k < n := by omega
    refine Pv.aload rfl rfl ?_
    refine Pv.aload rfl rfl ?_
    refine Pv.getR (v := .ref 36) rfl rfl (GW.at (a := 0) (k := 7) (b := 36) gw (by decide)) ?_
    refine Pv.getR (v := .ref 37) rfl rfl (GW.at (a := 36) (k := 0) (b := 37) gw (by decide)) ?_
    refine Pv.iload rfl rfl ?_
    refine Pv.ald (z := Int32.ofNat ((L k).1)) rfl (by rw [i_toNat (by omega)]; exact (hx.1 37 _ (by decide)).trans (hN k hlt).1) ?_
    refine Pv.aload rfl rfl ?_
    refine Pv.getR (v := .ref 36) rfl rfl (GW.at (a := 0) (k := 7) (b := 36) gw (by decide)) ?_
    refine Pv.getR (v := .ref 38) rfl rfl (GW.at (a := 36) (k := 1) (b := 38) gw (by decide)) ?_
    refine Pv.iload rfl rfl ?_
    refine Pv.ald (z := Int32.ofNat ((L k).2.1)) rfl (by rw [i_toNat (by omega)]; exact (hx.1 38 _ (by decide)).trans (hN k hlt).2.1) ?_
    refine Pv.aload rfl rfl ?_
    refine Pv.getR (v := .ref 36) rfl rfl (GW.at (a := 0) (k := 7) (b := 36) gw (by decide)) ?_
    refine Pv.getR (v := .ref 39) rfl rfl (GW.at (a := 36) (k := 2) (b := 39) gw (by decide)) ?_
    refine Pv.iload rfl rfl ?_
    refine Pv.ald (z := Int32.ofNat ((L k).2.2)) rfl (by rw [i_toNat (by omega)]; exact (hx.1 39 _ (by decide)).trans (hN k hlt).2.2) ?_
    refine Pv.callV (as := [.ref 0, .int (Int32.ofNat ((L k).1)), .int (Int32.ofNat ((L k).2.1)), .int (Int32.ofNat ((L k).2.2))]) (rest := []) rfl rfl rfl (o_liveLine (d := (L k).1) (w := (L k).2.1) (x := (L k).2.2) gw ((congrArg (fun z => z 0 13) hx.2.2.1).trans ht) (hT.fx hx (fun q h1 h2 (c : (20 ≤ q ∧ q ≤ 27) ∨ (7 ≤ q ∧ q ≤ 9)) => by omega)) hSk j0 (hK k hlt)) ?_
    rintro _ G2 ⟨rfl, x1, x2⟩
    have gw2 := GW.fx gw x1
    refine (show Pv _ _ 44 [some (.ref 0), some (.int (Int32.ofNat k)), o1] [.int (jw (jr T L S k) (L k))] G2 Q from ?_)
    refine Pv.istore (lo' := [some (.ref 0), some (.int (Int32.ofNat k)), some (.int (jw (jr T L S k) (L k)))]) rfl rfl ?_
    refine Pv.iload rfl rfl ?_
    refine Pv.if0 rfl (fun c7 => ?_) (fun c7 => ?_)
    · skip
      replace c7 := of_decide_eq_true c7
      refine Pv.iinc (y := Int32.ofNat (k + 1)) (lo' := [some (.ref 0), some (.int (Int32.ofNat (k + 1))), some (.int (jw (jr T L S k) (L k)))]) rfl rfl (i_add k 1) rfl ?_
      refine Pv.goto rfl ?_
      exact ih5 (k + 1, G2, (some (.int (jw (jr T L S k) (L k))))) (⟨by omega, hx.tr x1, x2, m_fst_n hb (show (!decide (jw (jr T L S k) (L k) = 0)) = false by rw [decide_eq_true c7]; rfl)⟩)
    · skip
      replace c7 := of_decide_eq_false c7
      refine Pv.aload rfl rfl ?_
      refine Pv.getR (v := .ref 44) rfl rfl (GW.at (a := 0) (k := 12) (b := 44) gw2 (by decide)) ?_
      refine Pv.lit rfl ?_
      refine Pv.iload rfl rfl ?_
      refine Pv.astk (k := 0) (z := jw (jr T L S k) (L k)) rfl (rfl) (rfl) ?_
      refine Pv.aload rfl rfl ?_
      refine Pv.getR (v := .ref 44) rfl rfl (GW.at (a := 0) (k := 12) (b := 44) gw2 (by decide)) ?_
      refine Pv.lit rfl ?_
      refine Pv.iload rfl rfl ?_
      refine Pv.astk (k := 1) (z := Int32.ofNat k) rfl (rfl) (rfl) ?_
      refine Pv.iload rfl rfl ?_
      have hw : ¬ jw (jr T L S k) (L k) = 0 := c7
      have en : m_fst (jP T L S) n = some k := m_fst_e hb (show (!decide (jw (jr T L S k) (L k) = 0)) = true by rw [decide_eq_false hw]; rfl) hlt
      have es : js T (jr T L S k) (L k) = jr T L S k := js_w (hK k hlt).1 hw
      have x3 : SHR G2 20 (t_m T) (js T (jr T L S k) (L k)) := x2
      rw [es] at x3
      exact Pv.ret rfl (by rw [hQ]; exact ⟨by rw [en]; rfl, (((hx.tr x1).wd (P' := fun q => (20 ≤ q ∧ q ≤ 27) ∨ (7 ≤ q ∧ q ≤ 9) ∨ q = 44) (fun q c => c.elim Or.inl (fun e => Or.inr (Or.inl e)))).fp (Or.inr (Or.inr rfl))).fp (Or.inr (Or.inr rfl)), by rw [en]; exact (SHR.fx (P := fun q => q = 44) x3 (((FX.rf (P := fun q => q = 44)).fp rfl).fp rfl) (fun q h1 h2 (c : q = 44) => by omega)), by rw [en]; exact (fp_ne (Or.inr (by decide))).trans fp_eq, by rw [en]; exact fp_eq, fun j h0 h1 => (fp_ne (Or.inr h1)).trans ((fp_ne (Or.inr h0)).trans ((hx.tr x1).1 44 j (by decide)))⟩)
