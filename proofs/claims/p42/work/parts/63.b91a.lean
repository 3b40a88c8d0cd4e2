set_option maxRecDepth 100000 in
set_option maxHeartbeats 4000000 in
theorem r_lg120 {F F0 : FW} {n nl : Nat} {T : St} {S : Sh} {L : LN} {H : Nat → Sh} {l : Int32} (hG0 : GW F0) (hT0 : XT F0 T) (hTB : TBB T) (hI : INV T S) (hS0 : XS F0 (t_m T) S) (hH0 : HSX F0 (t_m T) n H) (hL : ∀ k, k < nl → LIR F0 k (L k).1 (L k).2.1 (L k).2.2) (hK : ∀ k, k < nl → LYK T (L k)) (h30 : F0.1 69 30 = Int32.ofNat nl) (hnl : nl ≤ 40) (hl : l = 0 ∨ l = 1) (hR : RTL F0 F) (hSF : XS F (t_m T) S) (h80 : F.1 81 0 = 0) (h81 : F.1 81 1 = 0) (N : Nat) : Pv (ab_T (L_X11_log Z_X11_isIn Z_X11_taken Z_X11_next Z_X11_logLine Z_X11_sign Z_X11_tries Z_X11_does Z_X11_keep Z_X11_back)) N 120 [some (.ref 69), some (.int l), some (.int (m_sum (h_u S) 12)), some (.int (-1)), some (.int (Int32.ofNat 0))] [] F (fun r F' => r = some (.int (oN (m_fst (jP T L S) nl))) ∧ LGO F0 F' (t_m T) n S (jr T L S (jn nl (m_fst (jP T L S) nl))) H l (jn nl (m_fst (jP T L S) nl)) (jc T L S (m_fst (jP T L S) nl))) := by
  obtain ⟨Q, hQ⟩ : ∃ Q : Option Value → FW → Prop, Q = (fun r F' => r = some (.int (oN (m_fst (jP T L S) nl))) ∧ LGO F0 F' (t_m T) n S (jr T L S (jn nl (m_fst (jP T L S) nl))) H l (jn nl (m_fst (jP T L S) nl)) (jc T L S (m_fst (jP T L S) nl))) := ⟨_, rfl⟩
  rw [← hQ]
  have hm8 : t_m T ≤ 8 := hT0.mb
  refine (show Pv (ab_T (L_X11_log Z_X11_isIn Z_X11_taken Z_X11_next Z_X11_logLine Z_X11_sign Z_X11_tries Z_X11_does Z_X11_keep Z_X11_back)) N 120 [some (.ref 69), some (.int l), some (.int (m_sum (h_u S) 12)), some (.int (-1)), some (.int (Int32.ofNat 0))] [] F Q from ?_)
  refine Pv.lp (ι := Int32 × Nat × FW) (lof := fun ⟨a, k, G⟩ => [some (.ref 69), some (.int l), some (.int (m_sum (h_u S) 12)), some (.int a), some (.int (Int32.ofNat k))]) (Ff := fun ⟨a, k, G⟩ => G) (P := fun ⟨a, k, G⟩ => k ≤ nl ∧ RTL F0 G ∧ a = oN (m_fst (jP T L S) k) ∧ XS G (t_m T) (jr T L S (jn k (m_fst (jP T L S) k))) ∧ G.1 81 0 = jc T L S (m_fst (jP T L S) k) ∧ G.1 81 1 = Int32.ofNat (jn k (m_fst (jP T L S) k))) ?_ ((-1), 0, F) (⟨Nat.zero_le _, hR, rfl, hSF, h80, h81⟩)
  rintro N1 hN2 ⟨a, k, G⟩ hi3 ih4
  refine (show Pv _ _ 120 [some (.ref 69), some (.int l), some (.int (m_sum (h_u S) 12)), some (.int a), some (.int (Int32.ofNat k))] [] G Q from ?_)
  obtain ⟨hk, hR, ha, hs, h0, h1⟩ := hi3
  have gG := RTL.G hR hG0
  have hHG : HSX G (t_m T) n H := HSX.same hH0 hm8 (hR.2.2.2 25 (by decide) (by decide) (by decide) (by decide)) (fun k => hR.1.1 77 k (by decide))
  refine Pv.iloadS rfl rfl ?_
  refine Pv.aload rfl rfl ?_
  refine Pv.getI (z := Int32.ofNat nl) rfl rfl ((hR.2.2.2 30 (by decide) (by decide) (by decide) (by decide)).trans h30) ?_
  refine Pv.icmp rfl (fun c5 => ?_) (fun c5 => ?_)
  · skip
    replace c5 := (i_le (a := nl) (b := k) (by omega) (by omega)).mp (of_decide_eq_true c5)
    have ek : k = nl := by omega
    have e1 : m_fst (jP T L S) k = m_fst (jP T L S) nl := by rw [ek]
    have e2 : jn k (m_fst (jP T L S) k) = jn nl (m_fst (jP T L S) nl) := by rw [ek]
    rw [e2] at hs h1
    rw [e1] at ha h0
    rw [hQ, ha]
    exact r_lg216 gG hR hm8 hS0 hs hHG h0 h1 (Nat.le_trans jn_le hnl) hl _
  · skip
    replace c5 := mt (i_le (a := nl) (b := k) (by omega) (by omega)).mpr (of_decide_eq_false c5)
    refine Pv.iload rfl rfl ?_
    refine Pv.if0 rfl (fun c6 => ?_) (fun c6 => ?_)
    · skip
      replace c6 := of_decide_eq_true c6
      have nn : ¬ m_fst (jP T L S) k = none := fun e => by rw [e] at ha; rw [ha] at c6; exact absurd c6 (by decide)
      have e1 : m_fst (jP T L S) k = m_fst (jP T L S) nl := (jfst_go nn hk).symm
      have e2 : jn k (m_fst (jP T L S) k) = jn nl (m_fst (jP T L S) nl) := (jn_go nn).trans (congrArg (jn nl) e1)
      rw [e2] at hs h1
      rw [e1] at ha h0
      rw [hQ, ha]
      exact r_lg216 gG hR hm8 hS0 hs hHG h0 h1 (Nat.le_trans jn_le hnl) hl _
    · skip
      replace c6 := of_decide_eq_false c6
      have hlt : k < nl := by omega
      have en : m_fst (jP T L S) k = none := oN_neg0 (fun q e => by have := (m_fst_lt e).1; omega) (by rw [← ha]; exact Int32.not_le.mp c6)
      have ea : a = -1 := by rw [ha, en]; rfl
      rw [en] at hs h0 h1
      have hsk : XS G (t_m T) (jr T L S k) := hs
      refine Pv.aload rfl rfl ?_
      refine Pv.getR (v := .ref 81) rfl rfl (GW.at (a := 69) (k := 31) (b := 81) gG (by decide)) ?_
      refine Pv.lit rfl ?_
      refine Pv.aload rfl rfl ?_
      refine Pv.aload rfl rfl ?_
      refine Pv.getR (v := .ref 73) rfl rfl (GW.at (a := 69) (k := 8) (b := 73) gG (by decide)) ?_
      refine Pv.lit rfl ?_
      refine Pv.iload rfl rfl ?_
      refine Pv.bin (z := Int32.ofNat (4 * k)) rfl (i_mul 4 k) ?_
      refine Pv.ald (z := Int32.ofNat ((L k).1)) rfl (by rw [i_toNat (by omega)]; exact (hR.1.1 73 _ (by decide)).trans (hL k hlt).1) ?_
      refine Pv.aload rfl rfl ?_
      refine Pv.getR (v := .ref 73) rfl rfl (GW.at (a := 69) (k := 8) (b := 73) gG (by decide)) ?_
      refine Pv.lit rfl ?_
      refine Pv.iload rfl rfl ?_
      refine Pv.bin (z := Int32.ofNat (4 * k)) rfl (i_mul 4 k) ?_
      refine Pv.lit rfl ?_
      refine Pv.bin (z := Int32.ofNat ((4 * k) + 1)) rfl (i_add (4 * k) 1) ?_
      refine Pv.ald (z := F0.1 73 ((4 * k) + 1)) rfl (by rw [i_toNat (by omega)]; exact hR.1.1 73 _ (by decide)) ?_
      refine Pv.aload rfl rfl ?_
      refine Pv.getR (v := .ref 73) rfl rfl (GW.at (a := 69) (k := 8) (b := 73) gG (by decide)) ?_
      refine Pv.lit rfl ?_
      refine Pv.iload rfl rfl ?_
      refine Pv.bin (z := Int32.ofNat (4 * k)) rfl (i_mul 4 k) ?_
      refine Pv.lit rfl ?_
      refine Pv.bin (z := Int32.ofNat ((4 * k) + 2)) rfl (i_add (4 * k) 2) ?_
      refine Pv.ald (z := F0.1 73 ((4 * k) + 2)) rfl (by rw [i_toNat (by omega)]; exact hR.1.1 73 _ (by decide)) ?_
      refine Pv.aload rfl rfl ?_
      refine Pv.getR (v := .ref 73) rfl rfl (GW.at (a := 69) (k := 8) (b := 73) gG (by decide)) ?_
      refine Pv.lit rfl ?_
      refine Pv.iload rfl rfl ?_
      refine Pv.bin (z := Int32.ofNat (4 * k)) rfl (i_mul 4 k) ?_
      refine Pv.lit rfl ?_
      refine Pv.bin (z := Int32.ofNat ((4 * k) + 3)) rfl (i_add (4 * k) 3) ?_
      refine Pv.ald (z := F0.1 73 ((4 * k) + 3)) rfl (by rw [i_toNat (by omega)]; exact hR.1.1 73 _ (by decide)) ?_
      refine Pv.callV (as := [.ref 69, .int (Int32.ofNat ((L k).1)), .int (F0.1 73 ((4 * k) + 1)), .int (F0.1 73 ((4 * k) + 2)), .int (F0.1 73 ((4 * k) + 3))]) (rest := [.int 0, .ref 81]) rfl rfl rfl (r_does (y := L k) (hR.T hT0) hsk gG hTB (INV_jr hTB hT0.gb hI k (fun l hl => hK l (by omega))) (hK k hlt) (fun e => (hL k hlt).2.1 e) (fun e => (hL k hlt).2.2.1 e) (fun e => (hL k hlt).2.2.2 e)) ?_
      rintro _ G2 ⟨rfl, x1, x2⟩
      have gG2 := GW.fx gG x1.1
      refine (show Pv _ _ 184 [some (.ref 69), some (.int l), some (.int (m_sum (h_u S) 12)), some (.int a), some (.int (Int32.ofNat k))] [.int (jw (jr T L S k) (L k)), .int 0, .ref 81] G2 Q from ?_)
      refine Pv.astk (k := 0) (z := jw (jr T L S k) (L k)) rfl (rfl) (rfl) ?_
      refine Pv.aload rfl rfl ?_
      refine Pv.getR (v := .ref 81) rfl rfl (GW.at (a := 69) (k := 31) (b := 81) gG2 (by decide)) ?_
      refine Pv.lit rfl ?_
      refine Pv.ald (z := jw (jr T L S k) (L k)) rfl (fp_eq) ?_
      refine Pv.if0 rfl (fun c7 => ?_) (fun c7 => ?_)
      · skip
        replace c7 := of_decide_eq_true c7
        refine Pv.aload rfl rfl ?_
        refine Pv.getR (v := .ref 81) rfl rfl (GW.at (a := 69) (k := 31) (b := 81) gG2 (by decide)) ?_
        refine Pv.lit rfl ?_
        refine Pv.dup2 rfl ?_
        refine Pv.ald (z := Int32.ofNat k) rfl ((fp_ne (Or.inr (by decide))).trans ((x1.1.1 81 1 (by decide)).trans h1)) ?_
        refine Pv.lit rfl ?_
        refine Pv.bin (z := Int32.ofNat (k + 1)) rfl (i_add k 1) ?_
        refine Pv.astk (k := 1) (z := Int32.ofNat (k + 1)) rfl (rfl) (rfl) ?_
        refine Pv.iinc (y := Int32.ofNat (k + 1)) (lo' := [some (.ref 69), some (.int l), some (.int (m_sum (h_u S) 12)), some (.int a), some (.int (Int32.ofNat (k + 1)))]) rfl rfl (i_add k 1) rfl ?_
        refine Pv.goto rfl ?_
        exact ih4 (a, k + 1, (fp (fp G2 81 0 (jw (jr T L S k) (L k))) 81 1 (Int32.ofNat (k + 1)))) (lg_by (nl := nl) ea en (hK k hlt).1 c7 (by omega) (RTL.st (RTL.st (RTL.sx hR x1))) ((XS.sd (XS.sd x2 hm8 (by decide)) hm8 (by decide))) ((fp_ne (Or.inr (by decide))).trans (fp_eq)) (fp_eq))
      · skip
        replace c7 := of_decide_eq_false c7
        refine Pv.iload rfl rfl ?_
        refine Pv.istore (lo' := [some (.ref 69), some (.int l), some (.int (m_sum (h_u S) 12)), some (.int (Int32.ofNat k)), some (.int (Int32.ofNat k))]) rfl rfl ?_
        refine Pv.goto rfl ?_
        refine Pv.iinc (y := Int32.ofNat (k + 1)) (lo' := [some (.ref 69), some (.int l), some (.int (m_sum (h_u S) 12)), some (.int (Int32.ofNat k)), some (.int (Int32.ofNat (k + 1)))]) rfl rfl (i_add k 1) rfl ?_
        refine Pv.goto rfl ?_
        exact ih4 (Int32.ofNat k, k + 1, (fp G2 81 0 (jw (jr T L S k) (L k)))) (lg_bn (nl := nl) en (hK k hlt).1 c7 (by omega) (RTL.st (RTL.sx hR x1)) (fun e => by rw [← e]; exact (XS.sd x2 hm8 (by decide))) (fp_eq) ((fp_ne (Or.inr (by decide))).trans ((x1.1.1 81 1 (by decide)).trans h1)))
