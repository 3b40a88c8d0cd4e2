set_option maxRecDepth 100000 in
set_option maxHeartbeats 4000000 in
theorem r_lg83 {F0 : FW} {n nl : Nat} {T : St} {S : Sh} {L : LN} {H : Nat → Sh} {l : Int32} (hG0 : GW F0) (hT0 : XT F0 T) (hTB : TBB T) (hI : INV T S) (hS0 : XS F0 (t_m T) S) (hH0 : HSX F0 (t_m T) n H) (hL : ∀ k, k < nl → LIR F0 k (L k).1 (L k).2.1 (L k).2.2) (hK : ∀ k, k < nl → LYK T (L k)) (h30 : F0.1 69 30 = Int32.ofNat nl) (hnl : nl ≤ 40) (hl : l = 0 ∨ l = 1) (N : Nat) : Pv (ab_T (L_X11_log Z_X11_isIn Z_X11_taken Z_X11_next Z_X11_logLine Z_X11_sign Z_X11_tries Z_X11_does Z_X11_keep Z_X11_back)) N 83 [some (.ref 69), some (.int l), none, none, none] [] F0 (fun r F' => r = some (.int (oN (m_fst (jP T L S) nl))) ∧ LGO F0 F' (t_m T) n S (jr T L S (jn nl (m_fst (jP T L S) nl))) H l (jn nl (m_fst (jP T L S) nl)) (jc T L S (m_fst (jP T L S) nl))) := by
  obtain ⟨Q, hQ⟩ : ∃ Q : Option Value → FW → Prop, Q = (fun r F' => r = some (.int (oN (m_fst (jP T L S) nl))) ∧ LGO F0 F' (t_m T) n S (jr T L S (jn nl (m_fst (jP T L S) nl))) H l (jn nl (m_fst (jP T L S) nl)) (jc T L S (m_fst (jP T L S) nl))) := ⟨_, rfl⟩
  rw [← hQ]
  have hm8 : t_m T ≤ 8 := hT0.mb
  refine (show Pv (ab_T (L_X11_log Z_X11_isIn Z_X11_taken Z_X11_next Z_X11_logLine Z_X11_sign Z_X11_tries Z_X11_does Z_X11_keep Z_X11_back)) N 83 [some (.ref 69), some (.int l), none, none, none] [] F0 Q from ?_)
  refine Pv.aload rfl rfl ?_
  refine Pv.callV (as := [.ref 69]) (rest := []) rfl rfl rfl (g_tries hG0) ?_
  rintro _ G ⟨rfl, x1, x2⟩
  have gG := GW.fx hG0 x1
  have r0 : RTL F0 G := RTL.of x1 x2
  have s0 : XS G (t_m T) S := XS.fx hS0 hm8 x1 (by decide)
  refine (show Pv _ _ 87 [some (.ref 69), some (.int l), none, none, none] [] G Q from ?_)
  refine Pv.lit rfl ?_
  refine Pv.istore (lo' := [some (.ref 69), some (.int l), some (.int 0), none, none]) rfl rfl ?_
  refine Pv.lp (ι := Nat × FW) (lof := fun ⟨i, K⟩ => [some (.ref 69), some (.int l), some (.int (Int32.ofNat i)), none, none]) (Ff := fun ⟨i, K⟩ => K) (P := fun ⟨i, K⟩ => (i ≤ 4) ∧ (RTL F0 K) ∧ (XS K (t_m T) S) ∧ (∀ j, j < i → K.1 81 j = 0)) ?_ (0, G) (⟨Nat.zero_le _, r0, s0, fun j hj => absurd hj (Nat.not_lt_zero j)⟩)
  rintro N1 hN2 ⟨i, K⟩ hi3 ih4
  refine (show Pv _ _ 89 [some (.ref 69), some (.int l), some (.int (Int32.ofNat i)), none, none] [] K Q from ?_)
  obtain ⟨hi4, hR, hs, h4⟩ := hi3
  have gK := RTL.G hR hG0
  refine Pv.iloadS rfl rfl ?_
  refine Pv.lit rfl ?_
  refine Pv.icmp rfl (fun c5 => ?_) (fun c5 => ?_)
  · skip
    replace c5 := (i_le (a := 4) (b := i) (by omega) (by omega)).mp (of_decide_eq_true c5)
    refine Pv.aload rfl rfl ?_
    refine Pv.getR (v := .ref 71) rfl rfl (GW.at (a := 69) (k := 6) (b := 71) gK (by decide)) ?_
    refine Pv.lit rfl ?_
    refine Pv.ald (z := m_sum (h_u S) 12) rfl (hs.st) ?_
    refine Pv.istore (lo' := [some (.ref 69), some (.int l), some (.int (m_sum (h_u S) 12)), none, none]) rfl rfl ?_
    refine Pv.lit rfl ?_
    refine Pv.istore (lo' := [some (.ref 69), some (.int l), some (.int (m_sum (h_u S) 12)), some (.int (-1)), none]) rfl rfl ?_
    refine Pv.lit rfl ?_
    refine Pv.istore (lo' := [some (.ref 69), some (.int l), some (.int (m_sum (h_u S) 12)), some (.int (-1)), some (.int 0)]) rfl rfl ?_
    rw [hQ]
    exact r_lg120 hG0 hT0 hTB hI hS0 hH0 hL hK h30 hnl hl hR hs (h4 0 (by omega)) (h4 1 (by omega)) _
  · skip
    replace c5 := mt (i_le (a := 4) (b := i) (by omega) (by omega)).mpr (of_decide_eq_false c5)
    refine Pv.aload rfl rfl ?_
    refine Pv.getR (v := .ref 81) rfl rfl (GW.at (a := 69) (k := 31) (b := 81) gK (by decide)) ?_
    refine Pv.iload rfl rfl ?_
    refine Pv.lit rfl ?_
    refine Pv.astk (k := i) (z := 0) rfl (i_toNat (by omega)) (rfl) ?_
    refine Pv.iinc (y := Int32.ofNat (i + 1)) (lo' := [some (.ref 69), some (.int l), some (.int (Int32.ofNat (i + 1))), none, none]) rfl rfl (i_add i 1) rfl ?_
    refine Pv.goto rfl ?_
    exact ih4 (i + 1, (fp K 81 i 0)) (⟨by omega, RTL.st hR, XS.sd hs hm8 (by decide), fun j hj => Or.elim (Classical.em (j = i)) (fun e => by rw [e]; exact fp_eq) (fun e => (fp_ne (Or.inr e)).trans (h4 j (by omega)))⟩)
