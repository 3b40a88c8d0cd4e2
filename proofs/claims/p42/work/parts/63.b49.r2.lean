set_option maxRecDepth 100000 in
set_option maxHeartbeats 4000000 in
theorem g_day {F : FW} {T : St} {S : Sh} (hT : XT F T) (hS : XS F (t_m T) S) (hG : GW F) (hTB : TBB T) (hSB : SB S) (hD : h_d S < 400) : Pm Z_X11_day [.ref 69] F (fun r F' => r = none ∧ RX F F' ∧ XS F' (t_m T) (m_day T S)) := by
  refine Pm.of fun N => ?_
  obtain ⟨Q, hQ⟩ : ∃ Q : Option Value → FW → Prop, Q = (fun r F' => r = none ∧ RX F F' ∧ XS F' (t_m T) (m_day T S)) := ⟨_, rfl⟩
  rw [← hQ]
  have b3 := hT.mb
  have b4 := hT.nb
  have b5 := hT.gb
  have b6 := m_from_lt S
  have b7 := hS.db
  refine (show Pv (ab_T (L_X11_day Z_X11_goingSet Z_X11_bitOf Z_X11_goesOf Z_X11_cell Z_X11_eats Z_X11_areUnlike)) N 0 [some (.ref 69), none, none, none, none] [] F Q from ?_)
  refine Pv.lit rfl ?_
  refine Pv.aload rfl rfl ?_
  refine Pv.getR (v := .ref 71) rfl rfl (GW.at (a := 69) (k := 6) (b := 71) hG (by decide)) ?_
  refine Pv.lit rfl ?_
  refine Pv.ald (z := Int32.ofNat (h_d S)) rfl (hS.d) ?_
  refine Pv.lit rfl ?_
  refine Pv.irem (z := Int32.ofNat (m_from S)) rfl (i_rem2 (by omega)) ?_
  refine Pv.bin (z := Int32.ofNat (1 - m_from S)) rfl (i_1m (by omega)) ?_
  refine Pv.istore (lo' := [some (.ref 69), some (.int (Int32.ofNat (1 - m_from S))), none, none, none]) rfl rfl ?_
  refine Pv.aload rfl rfl ?_
  refine Pv.callVI (as := [.ref 69]) (rest := []) (z := m_board T S) rfl rfl rfl (g_goingSet  hT hS hG (by omega)) ?_
  refine Pv.istore (lo' := [some (.ref 69), some (.int (Int32.ofNat (1 - m_from S))), some (.int (m_board T S)), none, none]) rfl rfl ?_
  refine Pv.lit rfl ?_
  refine Pv.istore (lo' := [some (.ref 69), some (.int (Int32.ofNat (1 - m_from S))), some (.int (m_board T S)), some (.int 0), none]) rfl rfl ?_
  refine Pv.lp (ι := Nat × FW) (lof := fun ⟨k, GA⟩ => [some (.ref 69), some (.int (Int32.ofNat (1 - m_from S))), some (.int (m_board T S)), some (.int (Int32.ofNat k)), none]) (Ff := fun ⟨k, GA⟩ => GA) (P := fun ⟨k, GA⟩ => (k ≤ t_m T) ∧ (RX F GA) ∧ (GA.1 71 120 = Int32.ofNat (h_d S)) ∧ (GA.1 71 121 = h_i S) ∧ (GA.1 71 122 = h_r S) ∧ (GA.1 71 123 = m_sum (h_u S) 12) ∧ (GA.1 71 180 = F.1 71 180) ∧ (GA.1 69 22 = t_l T - m_pg T S 0) ∧ (AX GA 124 12 (h_s S)) ∧ (AX GA 136 12 (h_h S)) ∧ (AX GA 148 12 (h_u S)) ∧ (AX GA 160 12 (h_c S)) ∧ (AX GA 181 (t_m T) (m_cT T S k)) ∧ (∀ j, j < t_m T → m_alive S j = true → GA.1 71 (172 + j) = m_cA T S k j) ∧ (∀ a b, a < t_m T → b < t_m T → a ≠ b → m_alive S a = true → m_alive S b = true → GA.1 71 (189 + 8 * a + b) = m_apart S a b)) ?_ (0, (fp F 69 22 (t_l T - (m_pm T S (t_m T)).2))) (⟨Nat.zero_le _, (RX.rf).r, (fp_ne (Or.inl (by decide))).trans (hS.d), (fp_ne (Or.inl (by decide))).trans (hS.i), (fp_ne (Or.inl (by decide))).trans (hS.r), (fp_ne (Or.inl (by decide))).trans (hS.st), fp_ne (Or.inl (by decide)), fp_eq, (hS.s).no (by decide), (hS.h).no (by decide), (hS.u).no (by decide), (hS.c).no (by decide), (hS.t).no (by decide), fun j hj l => (fp_ne (Or.inl (by decide))).trans (hS.a hj l), fun a b ha hb hn l1 l2 => (fp_ne (Or.inl (by decide))).trans (hS.p ha hb hn l1 l2)⟩)
  rintro N1 hN2 ⟨k, GA⟩ hi3 ih4
  refine (show Pv _ _ 19 [some (.ref 69), some (.int (Int32.ofNat (1 - m_from S))), some (.int (m_board T S)), some (.int (Int32.ofNat k)), none] [] GA Q from ?_)
  obtain ⟨hk, hxGA, hA0, hA1, hA2, hA3, hAd, hAr, hA_s, hA_h, hA_u, hA_c, hA_t, hAt, hAp⟩ := hi3
  have hx5 := hxGA.T hT
  have hx6 := hxGA.G hG
  refine Pv.iloadS rfl rfl ?_
  refine Pv.aload rfl rfl ?_
  refine Pv.getR (v := .ref 71) rfl rfl (GW.at (a := 69) (k := 6) (b := 71) hx6 (by decide)) ?_
  refine Pv.lit rfl ?_
  refine Pv.ald (z := Int32.ofNat (t_m T)) rfl (hx5.m) ?_
  refine Pv.icmp rfl (fun c7 => ?_) (fun c7 => ?_)
  · skip
    replace c7 := (i_le (a := t_m T) (b := k) (by omega) (by omega)).mp (of_decide_eq_true c7)
    have ek : k = t_m T := by omega
    rw [ek] at hA_t hAt
    refine Pv.lit rfl ?_
    refine Pv.istore (lo' := [some (.ref 69), some (.int (Int32.ofNat (1 - m_from S))), some (.int (m_board T S)), some (.int 0), none]) rfl rfl ?_
    refine Pv.lp (ι := Nat × FW × (Option Value)) (lof := fun ⟨g, GB, o8⟩ => [some (.ref 69), some (.int (Int32.ofNat (1 - m_from S))), some (.int (m_board T S)), some (.int (Int32.ofNat g)), o8]) (Ff := fun ⟨g, GB, o8⟩ => GB) (P := fun ⟨g, GB, o8⟩ => (g ≤ t_g T) ∧ (RX F GB) ∧ (GB.1 71 120 = Int32.ofNat (h_d S)) ∧ (GB.1 71 121 = h_i S) ∧ (GB.1 71 122 = h_r S) ∧ (GB.1 71 123 = m_sum (h_u S) 12) ∧ (GB.1 71 180 = F.1 71 180) ∧ (GB.1 69 22 = t_l T - m_pg T S g) ∧ (AX GB 124 12 (m_cS T S g)) ∧ (AX GB 136 12 (h_h S)) ∧ (AX GB 148 12 (h_u S)) ∧ (AX GB 160 12 (m_cC T S g)) ∧ (AX GB 181 (t_m T) (m_cT T S (t_m T))) ∧ (∀ j, j < t_m T → m_alive S j = true → GB.1 71 (172 + j) = m_cA T S (t_m T) j) ∧ (∀ a b, a < t_m T → b < t_m T → a ≠ b → m_alive S a = true → m_alive S b = true → GB.1 71 (189 + 8 * a + b) = m_apart S a b)) ?_ (0, GA, none) (⟨Nat.zero_le _, hxGA, hA0, hA1, hA2, hA3, hAd, hAr, hA_s, hA_h, hA_u, hA_c, hA_t, hAt, hAp⟩)
    rintro N9 hN10 ⟨g, GB, o8⟩ hi11 ih12
    refine (show Pv _ _ 73 [some (.ref 69), some (.int (Int32.ofNat (1 - m_from S))), some (.int (m_board T S)), some (.int (Int32.ofNat g)), o8] [] GB Q from ?_)
    obtain ⟨hg, hxGB, hB0, hB1, hB2, hB3, hBd, hBr, hB_s, hB_h, hB_u, hB_c, hB_t, hBt, hBp⟩ := hi11
    have hx13 := hxGB.T hT
    have hx14 := hxGB.G hG
    refine Pv.iloadS rfl rfl ?_
    refine Pv.aload rfl rfl ?_
    refine Pv.getR (v := .ref 71) rfl rfl (GW.at (a := 69) (k := 6) (b := 71) hx14 (by decide)) ?_
    refine Pv.lit rfl ?_
    refine Pv.ald (z := Int32.ofNat (t_g T)) rfl (hx13.g) ?_
    refine Pv.icmp rfl (fun c15 => ?_) (fun c15 => ?_)
    · skip
      replace c15 := (i_le (a := t_g T) (b := g) (by omega) (by omega)).mp (of_decide_eq_true c15)
      have ek : g = t_g T := by omega
      rw [ek] at hB_s hB_c hBr
      refine Pv.aload rfl rfl ?_
      refine Pv.getR (v := .ref 71) rfl rfl (GW.at (a := 69) (k := 6) (b := 71) hx14 (by decide)) ?_
      refine Pv.lit rfl ?_
      refine Pv.dup2 rfl ?_
      refine Pv.ald (z := h_r S) rfl (hB2) ?_
      refine Pv.aload rfl rfl ?_
      refine Pv.getR (v := .ref 71) rfl rfl (GW.at (a := 69) (k := 6) (b := 71) hx14 (by decide)) ?_
      refine Pv.lit rfl ?_
      refine Pv.ald (z := t_l T) rfl (hx13.l) ?_
      refine Pv.aload rfl rfl ?_
      refine Pv.getI (z := t_l T - m_pg T S (t_g T)) rfl rfl (hBr) ?_
      refine Pv.bin (z := (t_l T) - (t_l T - m_pg T S (t_g T))) rfl (rfl) ?_
      refine Pv.bin (z := h_r S + m_pg T S (t_g T)) rfl (congrArg (h_r S + ·) (i_asb _ _)) ?_
      refine Pv.astk (k := 122) (z := h_r S + m_pg T S (t_g T)) rfl (rfl) (rfl) ?_
      have cut16 : Pv (ab_T (L_X11_day Z_X11_goingSet Z_X11_bitOf Z_X11_goesOf Z_X11_cell Z_X11_eats Z_X11_areUnlike)) N9 213 [some (.ref 69), some (.int (Int32.ofNat (1 - m_from S))), some (.int (m_board T S)), some (.int (Int32.ofNat g)), o8] [] (fp (fp GB 71 122 (h_r S + m_pg T S (t_g T))) 71 121 (if m_pg T S (t_g T) = 0 then h_i S + 1 else h_i S)) Q := by
        refine Pv.lit rfl ?_
        refine Pv.istore (lo' := [some (.ref 69), some (.int (Int32.ofNat (1 - m_from S))), some (.int (m_board T S)), some (.int 0), o8]) rfl rfl ?_
        refine Pv.lp (ι := Nat × FW × (Option Value)) (lof := fun ⟨k, GC, o17⟩ => [some (.ref 69), some (.int (Int32.ofNat (1 - m_from S))), some (.int (m_board T S)), some (.int (Int32.ofNat k)), o17]) (Ff := fun ⟨k, GC, o17⟩ => GC) (P := fun ⟨k, GC, o17⟩ => (k ≤ 2 * t_g T) ∧ (RX F GC) ∧ (GC.1 71 120 = Int32.ofNat (h_d S)) ∧ (GC.1 71 121 = (if m_pg T S (t_g T) = 0 then h_i S + 1 else h_i S)) ∧ (GC.1 71 122 = h_r S + m_pg T S (t_g T)) ∧ (GC.1 71 123 = m_sum (m_eU T (m_carry T S) k) 12) ∧ (GC.1 71 180 = F.1 71 180) ∧ (GC.1 69 22 = t_l T - m_pg T S (t_g T)) ∧ (AX GC 124 12 (m_eS T (m_carry T S) k)) ∧ (AX GC 136 12 (h_h S)) ∧ (AX GC 148 12 (m_eU T (m_carry T S) k)) ∧ (AX GC 160 12 (m_cC T S (t_g T))) ∧ (AX GC 181 (t_m T) (m_cT T S (t_m T))) ∧ (∀ j, j < t_m T → m_alive S j = true → GC.1 71 (172 + j) = m_cA T S (t_m T) j) ∧ (∀ a b, a < t_m T → b < t_m T → a ≠ b → m_alive S a = true → m_alive S b = true → GC.1 71 (189 + 8 * a + b) = m_apart S a b)) ?_ (0, (fp (fp GB 71 122 (h_r S + m_pg T S (t_g T))) 71 121 (if m_pg T S (t_g T) = 0 then h_i S + 1 else h_i S)), o8) (⟨Nat.zero_le _, ((hxGB).s (by omega) (by omega)).s (by omega) (by omega), (fp_ne (Or.inr (by decide))).trans ((fp_ne (Or.inr (by decide))).trans (hB0)), fp_eq, (fp_ne (Or.inr (by decide))).trans (fp_eq), (fp_ne (Or.inr (by decide))).trans ((fp_ne (Or.inr (by decide))).trans (hB3)), (fp_ne (Or.inr (by decide))).trans ((fp_ne (Or.inr (by decide))).trans (hBd)), (fp_ne (Or.inl (by decide))).trans ((fp_ne (Or.inl (by decide))).trans (hBr)), ((hB_s).ne (by omega)).ne (by omega), ((hB_h).ne (by omega)).ne (by omega), ((hB_u).ne (by omega)).ne (by omega), ((hB_c).ne (by omega)).ne (by omega), ((hB_t).ne (by omega)).ne (by omega), fun j hj l => (fp_ne (Or.inr (by omega))).trans ((fp_ne (Or.inr (by omega))).trans (hBt j hj l)), fun a b ha hb hn l1 l2 => (fp_ne (Or.inr (by omega))).trans ((fp_ne (Or.inr (by omega))).trans (hBp a b ha hb hn l1 l2))⟩)
        rintro N18 hN19 ⟨k, GC, o17⟩ hi20 ih21
        refine (show Pv _ _ 215 [some (.ref 69), some (.int (Int32.ofNat (1 - m_from S))), some (.int (m_board T S)), some (.int (Int32.ofNat k)), o17] [] GC Q from ?_)
        obtain ⟨hk, hxGC, hC0, hC1, hC2, hC3, hCd, hCr, hC_s, hC_h, hC_u, hC_c, hC_t, hCt, hCp⟩ := hi20
        have hx22 := hxGC.T hT
        have hx23 := hxGC.G hG
        refine Pv.iloadS rfl rfl ?_
        refine Pv.lit rfl ?_
        refine Pv.aload rfl rfl ?_
        refine Pv.getR (v := .ref 71) rfl rfl (GW.at (a := 69) (k := 6) (b := 71) hx23 (by decide)) ?_
        refine Pv.lit rfl ?_
        refine Pv.ald (z := Int32.ofNat (t_g T)) rfl (hx22.g) ?_
        refine Pv.bin (z := Int32.ofNat (2 * (t_g T))) rfl (i_mul 2 (t_g T)) ?_
        refine Pv.icmp rfl (fun c24 => ?_) (fun c24 => ?_)
        · skip
          replace c24 := (i_le (a := 2 * (t_g T)) (b := k) (by omega) (by omega)).mp (of_decide_eq_true c24)
          have ek : k = 2 * t_g T := by omega
          rw [ek] at hC_s hC_u hC3
          refine Pv.lit rfl ?_
          refine Pv.istore (lo' := [some (.ref 69), some (.int (Int32.ofNat (1 - m_from S))), some (.int (m_board T S)), some (.int 0), o17]) rfl rfl ?_
          refine Pv.lp (ι := Nat × FW × (Option Value)) (lof := fun ⟨k, GD, o25⟩ => [some (.ref 69), some (.int (Int32.ofNat (1 - m_from S))), some (.int (m_board T S)), some (.int (Int32.ofNat k)), o25]) (Ff := fun ⟨k, GD, o25⟩ => GD) (P := fun ⟨k, GD, o25⟩ => (k ≤ t_m T) ∧ (RX F GD) ∧ (GD.1 71 120 = Int32.ofNat (h_d S)) ∧ (GD.1 71 121 = (if m_pg T S (t_g T) = 0 then h_i S + 1 else h_i S)) ∧ (GD.1 71 122 = h_r S + m_pg T S (t_g T)) ∧ (GD.1 71 123 = m_sum (m_eU T (m_carry T S) (2 * t_g T)) 12) ∧ (GD.1 71 180 = F.1 71 180) ∧ (GD.1 69 22 = t_l T - m_pg T S (t_g T)) ∧ (AX GD 124 12 (m_eS T (m_carry T S) (2 * t_g T))) ∧ (AX GD 136 12 (h_h S)) ∧ (AX GD 148 12 (m_eU T (m_carry T S) (2 * t_g T))) ∧ (AX GD 160 12 (m_cC T S (t_g T))) ∧ (AX GD 181 (t_m T) (m_cT T S (t_m T))) ∧ (∀ j, j < t_m T → m_alive S j = true → GD.1 71 (172 + j) = m_cA T S (t_m T) j) ∧ (∀ a b, a < t_m T → b < t_m T → a ≠ b → m_alive S a = true → m_alive S b = true → GD.1 71 (189 + 8 * a + b) = if a < k then (if h_a (m_carry T S) a = h_a (m_carry T S) b then 0 else m_apart S a b + 1) else m_apart S a b)) ?_ (0, GC, o17) (⟨Nat.zero_le _, hxGC, hC0, hC1, hC2, hC3, hCd, hCr, hC_s, hC_h, hC_u, hC_c, hC_t, hCt, fun a b ha hb hn l1 l2 => (hCp a b ha hb hn l1 l2).trans (if_neg (by omega)).symm⟩)
          rintro N26 hN27 ⟨k, GD, o25⟩ hi28 ih29
          refine (show Pv _ _ 240 [some (.ref 69), some (.int (Int32.ofNat (1 - m_from S))), some (.int (m_board T S)), some (.int (Int32.ofNat k)), o25] [] GD Q from ?_)
          obtain ⟨hk, hxGD, hD0, hD1, hD2, hD3, hDd, hDr, hD_s, hD_h, hD_u, hD_c, hD_t, hDt, hDp⟩ := hi28
          have hx30 := hxGD.T hT
          have hx31 := hxGD.G hG
          refine Pv.iloadS rfl rfl ?_
          refine Pv.aload rfl rfl ?_
          refine Pv.getR (v := .ref 71) rfl rfl (GW.at (a := 69) (k := 6) (b := 71) hx31 (by decide)) ?_
          refine Pv.lit rfl ?_
          refine Pv.ald (z := Int32.ofNat (t_m T)) rfl (hx30.m) ?_
          refine Pv.icmp rfl (fun c32 => ?_) (fun c32 => ?_)
          · skip
            replace c32 := (i_le (a := t_m T) (b := k) (by omega) (by omega)).mp (of_decide_eq_true c32)
            refine Pv.aload rfl rfl ?_
            refine Pv.getR (v := .ref 71) rfl rfl (GW.at (a := 69) (k := 6) (b := 71) hx31 (by decide)) ?_
            refine Pv.lit rfl ?_
            refine Pv.dup2 rfl ?_
            refine Pv.ald (z := Int32.ofNat (h_d S)) rfl (hD0) ?_
            refine Pv.lit rfl ?_
            refine Pv.bin (z := Int32.ofNat ((h_d S) + 1)) rfl (i_add (h_d S) 1) ?_
            refine Pv.astk (k := 120) (z := Int32.ofNat ((h_d S) + 1)) rfl (rfl) (rfl) ?_
            exact Pv.vret rfl (by rw [hQ]; exact ⟨rfl, (hxGD).s (by omega) (by omega), (show h_d S + 1 ≤ 400 by omega), fp_eq, (fp_ne (Or.inr (by decide))).trans (hD1), (fp_ne (Or.inr (by decide))).trans (hD2), (fp_ne (Or.inr (by decide))).trans (hD3), (hD_s).ne (by omega), (hD_h).ne (by omega), (hD_u).ne (by omega), (hD_c).ne (by omega), fun j hj => by rw [show ((fp GD 71 120 (Int32.ofNat ((h_d S) + 1)))).1 71 180 = F.1 71 180 from (fp_ne (Or.inr (by decide))).trans (hDd), hS.de hj]; exact congrArg not (alive_carry (T := T) b3).symm, fun j hj l => (fp_ne (Or.inr (by omega))).trans (hDt j hj (by rw [← alive_carry (T := T) b3]; exact l)), (hD_t).ne (by omega), fun a b ha hb hn l1 l2 => (fp_ne (Or.inr (by omega))).trans ((hDp a b ha hb hn (by rw [← alive_carry (T := T) b3]; exact l1) (by rw [← alive_carry (T := T) b3]; exact l2)).trans ((if_pos (by omega)).trans (m_apart_count (T := T) (S := m_eat T (m_carry T S)) ha hb b3 hn).symm))⟩)
          · skip
            replace c32 := mt (i_le (a := t_m T) (b := k) (by omega) (by omega)).mpr (of_decide_eq_false c32)
            refine Pv.lit rfl ?_
            refine Pv.istore (lo' := [some (.ref 69), some (.int (Int32.ofNat (1 - m_from S))), some (.int (m_board T S)), some (.int (Int32.ofNat k)), some (.int 0)]) rfl rfl ?_
            refine Pv.lp (ι := Nat × FW) (lof := fun ⟨o, GI⟩ => [some (.ref 69), some (.int (Int32.ofNat (1 - m_from S))), some (.int (m_board T S)), some (.int (Int32.ofNat k)), some (.int (Int32.ofNat o))]) (Ff := fun ⟨o, GI⟩ => GI) (P := fun ⟨o, GI⟩ => (o ≤ t_m T) ∧ (RX F GI) ∧ (GI.1 71 120 = Int32.ofNat (h_d S)) ∧ (GI.1 71 121 = (if m_pg T S (t_g T) = 0 then h_i S + 1 else h_i S)) ∧ (GI.1 71 122 = h_r S + m_pg T S (t_g T)) ∧ (GI.1 71 123 = m_sum (m_eU T (m_carry T S) (2 * t_g T)) 12) ∧ (GI.1 71 180 = F.1 71 180) ∧ (GI.1 69 22 = t_l T - m_pg T S (t_g T)) ∧ (AX GI 124 12 (m_eS T (m_carry T S) (2 * t_g T))) ∧ (AX GI 136 12 (h_h S)) ∧ (AX GI 148 12 (m_eU T (m_carry T S) (2 * t_g T))) ∧ (AX GI 160 12 (m_cC T S (t_g T))) ∧ (AX GI 181 (t_m T) (m_cT T S (t_m T))) ∧ (∀ j, j < t_m T → m_alive S j = true → GI.1 71 (172 + j) = m_cA T S (t_m T) j) ∧ (∀ a b, a < t_m T → b < t_m T → a ≠ b → m_alive S a = true → m_alive S b = true → GI.1 71 (189 + 8 * a + b) = if a < k ∨ (a = k ∧ b < o) then (if h_a (m_carry T S) a = h_a (m_carry T S) b then 0 else m_apart S a b + 1) else m_apart S a b)) ?_ (0, GD) (⟨Nat.zero_le _, hxGD, hD0, hD1, hD2, hD3, hDd, hDr, hD_s, hD_h, hD_u, hD_c, hD_t, hDt, fun a b ha hb hn l1 l2 => (hDp a b ha hb hn l1 l2).trans (ifq (by omega))⟩)
            rintro N33 hN34 ⟨o, GI⟩ hi35 ih36
            refine (show Pv _ _ 253 [some (.ref 69), some (.int (Int32.ofNat (1 - m_from S))), some (.int (m_board T S)), some (.int (Int32.ofNat k)), some (.int (Int32.ofNat o))] [] GI Q from ?_)
            obtain ⟨ho, hxGI, hI0, hI1, hI2, hI3, hId, hIr, hI_s, hI_h, hI_u, hI_c, hI_t, hIt, hIp⟩ := hi35
            have hXDGI : XD GI (t_m T) (m_carry T S) := ⟨fun j hj => by rw [hId, hS.de hj, alive_carry b3], fun j hj l => hIt j hj (by rw [← alive_carry (T := T) b3]; exact l)⟩
            have hx37 := hxGI.T hT
            have hx38 := hxGI.G hG
            refine Pv.iloadS rfl rfl ?_
            refine Pv.aload rfl rfl ?_
            refine Pv.getR (v := .ref 71) rfl rfl (GW.at (a := 69) (k := 6) (b := 71) hx38 (by decide)) ?_
            refine Pv.lit rfl ?_
            refine Pv.ald (z := Int32.ofNat (t_m T)) rfl (hx37.m) ?_
            refine Pv.icmp rfl (fun c39 => ?_) (fun c39 => ?_)
            · skip
              replace c39 := (i_le (a := t_m T) (b := o) (by omega) (by omega)).mp (of_decide_eq_true c39)
              refine Pv.iinc (y := Int32.ofNat (k + 1)) (lo' := [some (.ref 69), some (.int (Int32.ofNat (1 - m_from S))), some (.int (m_board T S)), some (.int (Int32.ofNat (k + 1))), some (.int (Int32.ofNat o))]) rfl rfl (i_add k 1) rfl ?_
              refine Pv.goto rfl ?_
              exact (ih29 (k + 1, GI, (some (.int (Int32.ofNat o)))) (⟨by omega, hxGI, hI0, hI1, hI2, hI3, hId, hIr, hI_s, hI_h, hI_u, hI_c, hI_t, fun j hj l => hIt j hj l, fun a b ha hb hn l1 l2 => (hIp a b ha hb hn l1 l2).trans (ifq (by omega))⟩)).mono (by omega)
            · skip
              replace c39 := mt (i_le (a := t_m T) (b := o) (by omega) (by omega)).mpr (of_decide_eq_false c39)
              refine Pv.aload rfl rfl ?_
              refine Pv.getR (v := .ref 71) rfl rfl (GW.at (a := 69) (k := 6) (b := 71) hx38 (by decide)) ?_
              refine Pv.lit rfl ?_
              refine Pv.lit rfl ?_
              refine Pv.iload rfl rfl ?_
              refine Pv.bin (z := Int32.ofNat (8 * k)) rfl (i_mul 8 k) ?_
              refine Pv.bin (z := Int32.ofNat (189 + (8 * k))) rfl (i_add 189 (8 * k)) ?_
              refine Pv.iload rfl rfl ?_
              refine Pv.bin (z := Int32.ofNat ((189 + (8 * k)) + o)) rfl (i_add (189 + (8 * k)) o) ?_
              refine Pv.aload rfl rfl ?_
              refine Pv.iload rfl rfl ?_
              refine Pv.iload rfl rfl ?_
              refine Pv.callVI (as := [.ref 69, .int (Int32.ofNat k), .int (Int32.ofNat o)]) (rest := [.int (Int32.ofNat ((189 + (8 * k)) + o)), .ref 71]) (z := b2i (m_unl (m_carry T S) k o)) rfl rfl rfl (g_areUnlike (m := k) (o := o) hXDGI hx38 (by omega) (by omega) (by omega)) ?_
              refine Pv.if0 rfl (fun c40 => ?_) (fun c40 => ?_)
              · skip
                replace c40 := of_decide_eq_true c40
                replace c40 := b2z.mp c40
                refine Pv.lit rfl ?_
                refine Pv.astk (k := (189 + (8 * k)) + o) (z := 0) rfl (i_toNat (by omega)) (rfl) ?_
                refine Pv.iinc (y := Int32.ofNat (o + 1)) (lo' := [some (.ref 69), some (.int (Int32.ofNat (1 - m_from S))), some (.int (m_board T S)), some (.int (Int32.ofNat k)), some (.int (Int32.ofNat (o + 1)))]) rfl rfl (i_add o 1) rfl ?_
                refine Pv.goto rfl ?_
                exact ih36 (o + 1, (fp GI 71 ((189 + (8 * k)) + o) 0)) (⟨by omega, (hxGI).s (by omega) (by omega), (fp_ne (Or.inr (by omega))).trans (hI0), (fp_ne (Or.inr (by omega))).trans (hI1), (fp_ne (Or.inr (by omega))).trans (hI2), (fp_ne (Or.inr (by omega))).trans (hI3), (fp_ne (Or.inr (by omega))).trans (hId), (fp_ne (Or.inl (by decide))).trans (hIr), (hI_s).ne (by omega), (hI_h).ne (by omega), (hI_u).ne (by omega), (hI_c).ne (by omega), (hI_t).ne (by omega), fun j hj l => (fp_ne (Or.inr (by omega))).trans (hIt j hj l), fun a b ha hb hn l1 l2 => Or.elim (Classical.em (a = k ∧ b = o)) (fun e => by rw [e.1] at l1; rw [e.2] at l2; rw [e.1, e.2, if_pos (Or.inr ⟨rfl, by omega⟩)]; exact fp_eq.trans (if_pos (Classical.byContradiction fun z => absurd (show m_unl (m_carry T S) k o = true by unfold m_unl; rw [alive_carry b3, alive_carry b3, l1, l2, decide_eq_false z]; rfl) (by rw [c40]; decide))).symm) (fun e => (fp_ne (Or.inr (by omega))).trans ((hIp a b ha hb hn l1 l2).trans (ifq (by omega))))⟩)
              · skip
                replace c40 := of_decide_eq_false c40
                replace c40 := b2n.mp c40
                have u2 : m_alive (m_carry T S) k = true ∧ m_alive (m_carry T S) o = true ∧ ¬ h_a (m_carry T S) k = h_a (m_carry T S) o := by simpa [m_unl, and_assoc] using c40
                obtain ⟨a1, a2, a3⟩ := u2
                rw [alive_carry b3] at a1 a2
                have hne : k ≠ o := fun e => a3 (by rw [e])
                refine Pv.aload rfl rfl ?_
                refine Pv.getR (v := .ref 71) rfl rfl (GW.at (a := 69) (k := 6) (b := 71) hx38 (by decide)) ?_
                refine Pv.lit rfl ?_
                refine Pv.lit rfl ?_
                refine Pv.iload rfl rfl ?_
                refine Pv.bin (z := Int32.ofNat (8 * k)) rfl (i_mul 8 k) ?_
                refine Pv.bin (z := Int32.ofNat (189 + (8 * k))) rfl (i_add 189 (8 * k)) ?_
                refine Pv.iload rfl rfl ?_
                refine Pv.bin (z := Int32.ofNat ((189 + (8 * k)) + o)) rfl (i_add (189 + (8 * k)) o) ?_
                refine Pv.ald (z := m_apart S k o) rfl (by rw [i_toNat (by omega)]; exact (hIp k o (by omega) (by omega) hne a1 a2).trans (if_neg (by omega))) ?_
                refine Pv.lit rfl ?_
                refine Pv.bin (z := (m_apart S k o) + 1) rfl (rfl) ?_
                refine Pv.goto rfl ?_
                refine Pv.astk (k := (189 + (8 * k)) + o) (z := (m_apart S k o) + 1) rfl (i_toNat (by omega)) (rfl) ?_
                refine Pv.iinc (y := Int32.ofNat (o + 1)) (lo' := [some (.ref 69), some (.int (Int32.ofNat (1 - m_from S))), some (.int (m_board T S)), some (.int (Int32.ofNat k)), some (.int (Int32.ofNat (o + 1)))]) rfl rfl (i_add o 1) rfl ?_
                refine Pv.goto rfl ?_
                exact ih36 (o + 1, (fp GI 71 ((189 + (8 * k)) + o) ((m_apart S k o) + 1))) (⟨by omega, (hxGI).s (by omega) (by omega), (fp_ne (Or.inr (by omega))).trans (hI0), (fp_ne (Or.inr (by omega))).trans (hI1), (fp_ne (Or.inr (by omega))).trans (hI2), (fp_ne (Or.inr (by omega))).trans (hI3), (fp_ne (Or.inr (by omega))).trans (hId), (fp_ne (Or.inl (by decide))).trans (hIr), (hI_s).ne (by omega), (hI_h).ne (by omega), (hI_u).ne (by omega), (hI_c).ne (by omega), (hI_t).ne (by omega), fun j hj l => (fp_ne (Or.inr (by omega))).trans (hIt j hj l), fun a b ha hb hn l1 l2 => Or.elim (Classical.em (a = k ∧ b = o)) (fun e => by rw [e.1] at l1; rw [e.2] at l2; rw [e.1, e.2, if_pos (Or.inr ⟨rfl, by omega⟩)]; exact fp_eq.trans (if_neg a3).symm) (fun e => (fp_ne (Or.inr (by omega))).trans ((hIp a b ha hb hn l1 l2).trans (ifq (by omega))))⟩)
        · skip
          replace c24 := mt (i_le (a := 2 * (t_g T)) (b := k) (by omega) (by omega)).mpr (of_decide_eq_false c24)
          have hE := eS_b hTB (SB_carry hTB hSB b5) (k := k) (j := k) (by omega)
          have e0 := hE.1
          have e1 := hE.2
          refine Pv.aload rfl rfl ?_
          refine Pv.iload rfl rfl ?_
          refine Pv.callV (as := [.ref 69, .int (Int32.ofNat k)]) (rest := []) (Q' := (fun r F' => Pv (ab_T (L_X11_day Z_X11_goingSet Z_X11_bitOf Z_X11_goesOf Z_X11_cell Z_X11_eats Z_X11_areUnlike)) N18 232 [some (.ref 69), some (.int (Int32.ofNat (1 - m_from S))), some (.int (m_board T S)), some (.int (Int32.ofNat k)), o17] (r.toList ++ []) F' Q)) rfl rfl rfl ?_ (fun r F' h => h)
          refine Pm.of fun N42 => ?_
          obtain ⟨Q41, hQ41⟩ : ∃ Qx : Option Value → FW → Prop, Qx = (fun r F' => Pv (ab_T (L_X11_day Z_X11_goingSet Z_X11_bitOf Z_X11_goesOf Z_X11_cell Z_X11_eats Z_X11_areUnlike)) N18 232 [some (.ref 69), some (.int (Int32.ofNat (1 - m_from S))), some (.int (m_board T S)), some (.int (Int32.ofNat k)), o17] (r.toList ++ []) F' Q) := ⟨_, rfl⟩
          rw [← hQ41]
          refine (show Pv (ab_T (L_X11_eats Z_X11_lesser)) N42 0 [some (.ref 69), some (.int (Int32.ofNat k)), none] [] GC Q41 from ?_)
          refine Pv.aload rfl rfl ?_
          refine Pv.getR (v := .ref 71) rfl rfl (GW.at (a := 69) (k := 6) (b := 71) hx23 (by decide)) ?_
          refine Pv.lit rfl ?_
          refine Pv.iload rfl rfl ?_
          refine Pv.bin (z := Int32.ofNat (124 + k)) rfl (i_add 124 k) ?_
          refine Pv.lit rfl ?_
          refine Pv.aload rfl rfl ?_
          refine Pv.getR (v := .ref 71) rfl rfl (GW.at (a := 69) (k := 6) (b := 71) hx23 (by decide)) ?_
          refine Pv.lit rfl ?_
          refine Pv.iload rfl rfl ?_
          refine Pv.bin (z := Int32.ofNat (124 + k)) rfl (i_add 124 k) ?_
          refine Pv.ald (z := (m_eS T (m_carry T S) k) k) rfl (by rw [i_toNat (by omega)]; exact hC_s _ (by omega)) ?_
          refine Pv.aload rfl rfl ?_
          refine Pv.getR (v := .ref 71) rfl rfl (GW.at (a := 69) (k := 6) (b := 71) hx23 (by decide)) ?_
          refine Pv.lit rfl ?_
          refine Pv.iload rfl rfl ?_
          refine Pv.bin (z := Int32.ofNat (40 + k)) rfl (i_add 40 k) ?_
          refine Pv.ald (z := t_a T (36 + k)) rfl (by rw [i_toNat (by omega)]; exact hx22.k _ (by omega)) ?_
          refine Pv.bin (z := ((m_eS T (m_carry T S) k) k) + (t_a T (36 + k))) rfl (rfl) ?_
          refine Pv.callI (as := [.int 999, .int (((m_eS T (m_carry T S) k) k) + (t_a T (36 + k)))]) (rest := [.int (Int32.ofNat (124 + k)), .ref 71]) (z := m_less 999 (((m_eS T (m_carry T S) k) k) + (t_a T (36 + k)))) rfl rfl rfl (g_lesser (x := 999) (y := ((m_eS T (m_carry T S) k) k) + (t_a T (36 + k)))) ?_
          refine Pv.astk (k := 124 + k) (z := m_less 999 (((m_eS T (m_carry T S) k) k) + (t_a T (36 + k)))) rfl (i_toNat (by omega)) (rfl) ?_
          refine Pv.aload rfl rfl ?_
          refine Pv.getR (v := .ref 71) rfl rfl (GW.at (a := 69) (k := 6) (b := 71) hx23 (by decide)) ?_
          refine Pv.lit rfl ?_
          refine Pv.iload rfl rfl ?_
          refine Pv.bin (z := Int32.ofNat (28 + k)) rfl (i_add 28 k) ?_
          refine Pv.ald (z := t_a T (24 + k)) rfl (by rw [i_toNat (by omega)]; exact (fp_ne (Or.inr (by omega))).trans (hx22.e _ (by omega))) ?_
          refine Pv.aload rfl rfl ?_
          refine Pv.getR (v := .ref 71) rfl rfl (GW.at (a := 69) (k := 6) (b := 71) hx23 (by decide)) ?_
          refine Pv.lit rfl ?_
          refine Pv.iload rfl rfl ?_
          refine Pv.bin (z := Int32.ofNat (124 + k)) rfl (i_add 124 k) ?_
          refine Pv.ald (z := m_less 999 (((m_eS T (m_carry T S) k) k) + (t_a T (36 + k)))) rfl (by rw [i_toNat (by omega)]; exact fp_eq) ?_
          refine Pv.bin (z := (t_a T (24 + k)) - (m_less 999 (((m_eS T (m_carry T S) k) k) + (t_a T (36 + k))))) rfl (rfl) ?_
          refine Pv.istore (lo' := [some (.ref 69), some (.int (Int32.ofNat k)), some (.int ((t_a T (24 + k)) - (m_less 999 (((m_eS T (m_carry T S) k) k) + (t_a T (36 + k))))))]) rfl rfl ?_
          refine Pv.iload rfl rfl ?_
          refine Pv.if0 rfl (fun c43 => ?_) (fun c43 => ?_)
          · skip
            replace c43 := of_decide_eq_true c43
            refine Pv.aload rfl rfl ?_
            refine Pv.getR (v := .ref 71) rfl rfl (GW.at (a := 69) (k := 6) (b := 71) hx23 (by decide)) ?_
            refine Pv.lit rfl ?_
            refine Pv.iload rfl rfl ?_
            refine Pv.bin (z := Int32.ofNat (124 + k)) rfl (i_add 124 k) ?_
            refine Pv.dup2 rfl ?_
            refine Pv.ald (z := m_less 999 (((m_eS T (m_carry T S) k) k) + (t_a T (36 + k)))) rfl (by rw [i_toNat (by omega)]; exact fp_eq) ?_
            refine Pv.aload rfl rfl ?_
            refine Pv.getR (v := .ref 71) rfl rfl (GW.at (a := 69) (k := 6) (b := 71) hx23 (by decide)) ?_
            refine Pv.lit rfl ?_
            refine Pv.iload rfl rfl ?_
            refine Pv.bin (z := Int32.ofNat (28 + k)) rfl (i_add 28 k) ?_
            refine Pv.ald (z := t_a T (24 + k)) rfl (by rw [i_toNat (by omega)]; exact (fp_ne (Or.inr (by omega))).trans (hx22.e _ (by omega))) ?_
            refine Pv.bin (z := (m_less 999 (((m_eS T (m_carry T S) k) k) + (t_a T (36 + k)))) - (t_a T (24 + k))) rfl (rfl) ?_
            refine Pv.astk (k := 124 + k) (z := (m_less 999 (((m_eS T (m_carry T S) k) k) + (t_a T (36 + k)))) - (t_a T (24 + k))) rfl (i_toNat (by omega)) (rfl) ?_
            refine Pv.vret rfl ?_
            rw [hQ41]
            refine (show Pv (ab_T (L_X11_day Z_X11_goingSet Z_X11_bitOf Z_X11_goesOf Z_X11_cell Z_X11_eats Z_X11_areUnlike)) N18 232 [some (.ref 69), some (.int (Int32.ofNat (1 - m_from S))), some (.int (m_board T S)), some (.int (Int32.ofNat k)), o17] [] (fp (fp GC 71 (124 + k) (m_less 999 (((m_eS T (m_carry T S) k) k) + (t_a T (36 + k))))) 71 (124 + k) ((m_less 999 (((m_eS T (m_carry T S) k) k) + (t_a T (36 + k)))) - (t_a T (24 + k)))) Q from ?_)
            refine Pv.iinc (y := Int32.ofNat (k + 1)) (lo' := [some (.ref 69), some (.int (Int32.ofNat (1 - m_from S))), some (.int (m_board T S)), some (.int (Int32.ofNat (k + 1))), o17]) rfl rfl (i_add k 1) rfl ?_
            refine Pv.goto rfl ?_
            exact ih21 (k + 1, (fp (fp GC 71 (124 + k) (m_less 999 (((m_eS T (m_carry T S) k) k) + (t_a T (36 + k))))) 71 (124 + k) ((m_less 999 (((m_eS T (m_carry T S) k) k) + (t_a T (36 + k)))) - (t_a T (24 + k)))), o17) (⟨by omega, ((hxGC).s (by omega) (by omega)).s (by omega) (by omega), (fp_ne (Or.inr (by omega))).trans ((fp_ne (Or.inr (by omega))).trans (hC0)), (fp_ne (Or.inr (by omega))).trans ((fp_ne (Or.inr (by omega))).trans (hC1)), (fp_ne (Or.inr (by omega))).trans ((fp_ne (Or.inr (by omega))).trans (hC2)), ((fp_ne (Or.inr (by omega))).trans ((fp_ne (Or.inr (by omega))).trans (hC3))).trans (congrArg (fun u => m_sum u 12) (if_neg (eat_no hTB (by omega) e0 e1 c43).1).symm), (fp_ne (Or.inr (by omega))).trans ((fp_ne (Or.inr (by omega))).trans (hCd)), (fp_ne (Or.inl (by decide))).trans ((fp_ne (Or.inl (by decide))).trans (hCr)), (((hC_s).up).up).eq (by rw [up1_up1, (eat_no hTB (by omega) e0 e1 c43).2]; rfl), ((hC_h).ne (by omega)).ne (by omega), (((hC_u).ne (by omega)).ne (by omega)).eq ((if_neg (eat_no hTB (by omega) e0 e1 c43).1).symm), ((hC_c).ne (by omega)).ne (by omega), ((hC_t).ne (by omega)).ne (by omega), fun j hj l => (fp_ne (Or.inr (by omega))).trans ((fp_ne (Or.inr (by omega))).trans (hCt j hj l)), fun a b ha hb hn l1 l2 => (fp_ne (Or.inr (by omega))).trans ((fp_ne (Or.inr (by omega))).trans (hCp a b ha hb hn l1 l2))⟩)
          · skip
            replace c43 := of_decide_eq_false c43
            refine Pv.aload rfl rfl ?_
            refine Pv.getR (v := .ref 71) rfl rfl (GW.at (a := 69) (k := 6) (b := 71) hx23 (by decide)) ?_
            refine Pv.lit rfl ?_
            refine Pv.iload rfl rfl ?_
            refine Pv.bin (z := Int32.ofNat (148 + k)) rfl (i_add 148 k) ?_
            refine Pv.dup2 rfl ?_
            refine Pv.ald (z := (m_eU T (m_carry T S) k) k) rfl (by rw [i_toNat (by omega)]; exact (fp_ne (Or.inr (by omega))).trans (hC_u _ (by omega))) ?_
            refine Pv.iload rfl rfl ?_
            refine Pv.bin (z := ((m_eU T (m_carry T S) k) k) + ((t_a T (24 + k)) - (m_less 999 (((m_eS T (m_carry T S) k) k) + (t_a T (36 + k)))))) rfl (rfl) ?_
            refine Pv.astk (k := 148 + k) (z := ((m_eU T (m_carry T S) k) k) + ((t_a T (24 + k)) - (m_less 999 (((m_eS T (m_carry T S) k) k) + (t_a T (36 + k)))))) rfl (i_toNat (by omega)) (rfl) ?_
            refine Pv.aload rfl rfl ?_
            refine Pv.getR (v := .ref 71) rfl rfl (GW.at (a := 69) (k := 6) (b := 71) hx23 (by decide)) ?_
            refine Pv.lit rfl ?_
            refine Pv.dup2 rfl ?_
            refine Pv.ald (z := m_sum (m_eU T (m_carry T S) k) 12) rfl (show (fp (fp GC 71 (124 + k) (m_less 999 (((m_eS T (m_carry T S) k) k) + (t_a T (36 + k))))) 71 (148 + k) (((m_eU T (m_carry T S) k) k) + ((t_a T (24 + k)) - (m_less 999 (((m_eS T (m_carry T S) k) k) + (t_a T (36 + k))))))).1 71 123 = m_sum (m_eU T (m_carry T S) k) 12 from (fp_ne (Or.inr (by omega))).trans ((fp_ne (Or.inr (by omega))).trans (hC3))) ?_
            refine Pv.iload rfl rfl ?_
            refine Pv.bin (z := (m_sum (m_eU T (m_carry T S) k) 12) + ((t_a T (24 + k)) - (m_less 999 (((m_eS T (m_carry T S) k) k) + (t_a T (36 + k)))))) rfl (rfl) ?_
            refine Pv.astk (k := 123) (z := (m_sum (m_eU T (m_carry T S) k) 12) + ((t_a T (24 + k)) - (m_less 999 (((m_eS T (m_carry T S) k) k) + (t_a T (36 + k)))))) rfl (rfl) (rfl) ?_
            refine Pv.aload rfl rfl ?_
            refine Pv.getR (v := .ref 71) rfl rfl (GW.at (a := 69) (k := 6) (b := 71) hx23 (by decide)) ?_
            refine Pv.lit rfl ?_
            refine Pv.iload rfl rfl ?_
            refine Pv.bin (z := Int32.ofNat (124 + k)) rfl (i_add 124 k) ?_
            refine Pv.lit rfl ?_
            refine Pv.astk (k := 124 + k) (z := 0) rfl (i_toNat (by omega)) (rfl) ?_
            refine Pv.goto rfl ?_
            refine Pv.vret rfl ?_
            rw [hQ41]
            refine (show Pv (ab_T (L_X11_day Z_X11_goingSet Z_X11_bitOf Z_X11_goesOf Z_X11_cell Z_X11_eats Z_X11_areUnlike)) N18 232 [some (.ref 69), some (.int (Int32.ofNat (1 - m_from S))), some (.int (m_board T S)), some (.int (Int32.ofNat k)), o17] [] (fp (fp (fp (fp GC 71 (124 + k) (m_less 999 (((m_eS T (m_carry T S) k) k) + (t_a T (36 + k))))) 71 (148 + k) (((m_eU T (m_carry T S) k) k) + ((t_a T (24 + k)) - (m_less 999 (((m_eS T (m_carry T S) k) k) + (t_a T (36 + k))))))) 71 123 ((m_sum (m_eU T (m_carry T S) k) 12) + ((t_a T (24 + k)) - (m_less 999 (((m_eS T (m_carry T S) k) k) + (t_a T (36 + k))))))) 71 (124 + k) 0) Q from ?_)
            refine Pv.iinc (y := Int32.ofNat (k + 1)) (lo' := [some (.ref 69), some (.int (Int32.ofNat (1 - m_from S))), some (.int (m_board T S)), some (.int (Int32.ofNat (k + 1))), o17]) rfl rfl (i_add k 1) rfl ?_
            refine Pv.goto rfl ?_
            exact ih21 (k + 1, (fp (fp (fp (fp GC 71 (124 + k) (m_less 999 (((m_eS T (m_carry T S) k) k) + (t_a T (36 + k))))) 71 (148 + k) (((m_eU T (m_carry T S) k) k) + ((t_a T (24 + k)) - (m_less 999 (((m_eS T (m_carry T S) k) k) + (t_a T (36 + k))))))) 71 123 ((m_sum (m_eU T (m_carry T S) k) 12) + ((t_a T (24 + k)) - (m_less 999 (((m_eS T (m_carry T S) k) k) + (t_a T (36 + k))))))) 71 (124 + k) 0), o17) (⟨by omega, ((((hxGC).s (by omega) (by omega)).s (by omega) (by omega)).s (by omega) (by omega)).s (by omega) (by omega), (fp_ne (Or.inr (by omega))).trans ((fp_ne (Or.inr (by decide))).trans ((fp_ne (Or.inr (by omega))).trans ((fp_ne (Or.inr (by omega))).trans (hC0)))), (fp_ne (Or.inr (by omega))).trans ((fp_ne (Or.inr (by decide))).trans ((fp_ne (Or.inr (by omega))).trans ((fp_ne (Or.inr (by omega))).trans (hC1)))), (fp_ne (Or.inr (by omega))).trans ((fp_ne (Or.inr (by decide))).trans ((fp_ne (Or.inr (by omega))).trans ((fp_ne (Or.inr (by omega))).trans (hC2)))), ((fp_ne (Or.inr (by omega))).trans (fp_eq)).trans (((eat_yes hTB (by omega) e0 e1 c43).2.2).trans ((sum_up (by omega)).symm.trans (congrArg (fun u => m_sum u 12) (if_pos (eat_yes (u := 0) hTB (by omega) e0 e1 c43).1).symm))), (fp_ne (Or.inr (by omega))).trans ((fp_ne (Or.inr (by decide))).trans ((fp_ne (Or.inr (by omega))).trans ((fp_ne (Or.inr (by omega))).trans (hCd)))), (fp_ne (Or.inl (by decide))).trans ((fp_ne (Or.inl (by decide))).trans ((fp_ne (Or.inl (by decide))).trans ((fp_ne (Or.inl (by decide))).trans (hCr)))), (((((hC_s).up).ne (by omega)).ne (by omega)).up).eq (by rw [up1_up1, ← (eat_yes (u := 0) hTB (by omega) e0 e1 c43).2.1]; rfl), ((((hC_h).ne (by omega)).ne (by omega)).ne (by omega)).ne (by omega), (((((hC_u).ne (by omega)).up).ne (by omega)).ne (by omega)).eq ((congrArg (up1 _ k) (eat_yes hTB (by omega) e0 e1 c43).2.2).trans (if_pos (eat_yes (u := 0) hTB (by omega) e0 e1 c43).1).symm), ((((hC_c).ne (by omega)).ne (by omega)).ne (by omega)).ne (by omega), ((((hC_t).ne (by omega)).ne (by omega)).ne (by omega)).ne (by omega), fun j hj l => (fp_ne (Or.inr (by omega))).trans ((fp_ne (Or.inr (by omega))).trans ((fp_ne (Or.inr (by omega))).trans ((fp_ne (Or.inr (by omega))).trans (hCt j hj l)))), fun a b ha hb hn l1 l2 => (fp_ne (Or.inr (by omega))).trans ((fp_ne (Or.inr (by omega))).trans ((fp_ne (Or.inr (by omega))).trans ((fp_ne (Or.inr (by omega))).trans (hCp a b ha hb hn l1 l2))))⟩)
      refine Pv.aload rfl rfl ?_
      refine Pv.getR (v := .ref 71) rfl rfl (GW.at (a := 69) (k := 6) (b := 71) hx14 (by decide)) ?_
      refine Pv.lit rfl ?_
      refine Pv.dup2 rfl ?_
      refine Pv.ald (z := h_i S) rfl ((fp_ne (Or.inr (by decide))).trans (hB1)) ?_
      refine Pv.aload rfl rfl ?_
      refine Pv.getI (z := t_l T - m_pg T S (t_g T)) rfl rfl ((fp_ne (Or.inl (by decide))).trans (hBr)) ?_
      refine Pv.aload rfl rfl ?_
      refine Pv.getR (v := .ref 71) rfl rfl (GW.at (a := 69) (k := 6) (b := 71) hx14 (by decide)) ?_
      refine Pv.lit rfl ?_
      refine Pv.ald (z := t_l T) rfl ((fp_ne (Or.inr (by decide))).trans (hx13.l)) ?_
      refine Pv.icmp rfl (fun c44 => ?_) (fun c44 => ?_)
      · skip
        replace c44 : decide (t_l T - m_pg T S (t_g T) = t_l T) = false := by simpa using c44
        replace c44 := of_decide_eq_false c44
        refine Pv.lit rfl ?_
        refine Pv.bin (z := (if m_pg T S (t_g T) = 0 then h_i S + 1 else h_i S)) rfl ((Int32.add_zero _).trans (if_neg (fun e => c44 (i_sub0.mpr e))).symm) ?_
        refine Pv.astk (k := 121) (z := (if m_pg T S (t_g T) = 0 then h_i S + 1 else h_i S)) rfl (rfl) (rfl) ?_
        exact cut16
      · skip
        replace c44 : decide (t_l T - m_pg T S (t_g T) = t_l T) = true := by simpa using c44
        replace c44 := of_decide_eq_true c44
        refine Pv.lit rfl ?_
        refine Pv.goto rfl ?_
        refine Pv.bin (z := (if m_pg T S (t_g T) = 0 then h_i S + 1 else h_i S)) rfl ((if_pos (i_sub0.mp c44)).symm) ?_
        refine Pv.astk (k := 121) (z := (if m_pg T S (t_g T) = 0 then h_i S + 1 else h_i S)) rfl (rfl) (rfl) ?_
        exact cut16
    · skip
      replace c15 := mt (i_le (a := t_g T) (b := g) (by omega) (by omega)).mpr (of_decide_eq_false c15)
      refine Pv.aload rfl rfl ?_
      refine Pv.iload rfl rfl ?_
      refine Pv.callVI (as := [.ref 69, .int (Int32.ofNat g)]) (rest := []) (z := m_less (t_l T - m_pg T S g) (m_less ((m_cS T S g) (2 * g + m_from S)) (m_lackr (t_a T (1 * 12 + (2 * g + (1 - m_from S)))) ((m_cS T S g) (2 * g + (1 - m_from S)))))) rfl rfl rfl (g_goesOf (g := g) (d := (h_d S)) (rm := t_l T - m_pg T S g) (x := (m_cS T S g) (2 * g + m_from S)) (y := (m_cS T S g) (2 * g + (1 - m_from S))) (w := t_a T (1 * 12 + (2 * g + (1 - m_from S)))) hx14 (by omega) (by omega) (hBr) (hB0) (hB_s _ (by omega)) (hB_s _ (by omega)) (hx13.wa _ (by omega))) ?_
      have en : m_less (t_l T - m_pg T S g) (m_less ((m_cS T S g) (2 * g + m_from S)) (m_lackr (t_a T (1 * 12 + (2 * g + (1 - m_from S)))) ((m_cS T S g) (2 * g + (1 - m_from S))))) = m_fr T S g := fr_eq hTB hSB hD (by omega)
      rw [en]
      refine Pv.istore (lo' := [some (.ref 69), some (.int (Int32.ofNat (1 - m_from S))), some (.int (m_board T S)), some (.int (Int32.ofNat g)), some (.int (m_fr T S g))]) rfl rfl ?_
      refine Pv.aload rfl rfl ?_
      refine Pv.getR (v := .ref 71) rfl rfl (GW.at (a := 69) (k := 6) (b := 71) hx14 (by decide)) ?_
      refine Pv.lit rfl ?_
      refine Pv.iload rfl rfl ?_
      refine Pv.lit rfl ?_
      refine Pv.iload rfl rfl ?_
      refine Pv.bin (z := Int32.ofNat (m_from S)) rfl ((i_1m (by omega)).trans (congrArg Int32.ofNat (by omega))) ?_
      refine Pv.callI (as := [.int (Int32.ofNat g), .int (Int32.ofNat (m_from S))]) (rest := [.int 124, .ref 71]) (z := Int32.ofNat (2 * g + (m_from S))) rfl rfl rfl (g_cell (g := g) (s := m_from S)) ?_
      refine Pv.bin (z := Int32.ofNat (124 + (2 * g + (m_from S)))) rfl (i_add 124 (2 * g + (m_from S))) ?_
      refine Pv.dup2 rfl ?_
      refine Pv.ald (z := (m_cS T S g) (2 * g + (m_from S))) rfl (by rw [i_toNat (by omega)]; exact hB_s _ (by omega)) ?_
      refine Pv.iload rfl rfl ?_
      refine Pv.bin (z := ((m_cS T S g) (2 * g + (m_from S))) - (m_fr T S g)) rfl (rfl) ?_
      refine Pv.astk (k := 124 + (2 * g + (m_from S))) (z := ((m_cS T S g) (2 * g + (m_from S))) - (m_fr T S g)) rfl (i_toNat (by omega)) (rfl) ?_
      refine Pv.aload rfl rfl ?_
      refine Pv.getR (v := .ref 71) rfl rfl (GW.at (a := 69) (k := 6) (b := 71) hx14 (by decide)) ?_
      refine Pv.lit rfl ?_
      refine Pv.iload rfl rfl ?_
      refine Pv.iload rfl rfl ?_
      refine Pv.callI (as := [.int (Int32.ofNat g), .int (Int32.ofNat (1 - m_from S))]) (rest := [.int 124, .ref 71]) (z := Int32.ofNat (2 * g + (1 - m_from S))) rfl rfl rfl (g_cell (g := g) (s := 1 - m_from S)) ?_
      refine Pv.bin (z := Int32.ofNat (124 + (2 * g + (1 - m_from S)))) rfl (i_add 124 (2 * g + (1 - m_from S))) ?_
      refine Pv.dup2 rfl ?_
      refine Pv.ald (z := (m_cS T S g) (2 * g + (1 - m_from S))) rfl (by rw [i_toNat (by omega)]; exact (fp_ne (Or.inr (by omega))).trans (hB_s _ (by omega))) ?_
      refine Pv.iload rfl rfl ?_
      refine Pv.bin (z := ((m_cS T S g) (2 * g + (1 - m_from S))) + (m_fr T S g)) rfl (rfl) ?_
      refine Pv.astk (k := 124 + (2 * g + (1 - m_from S))) (z := ((m_cS T S g) (2 * g + (1 - m_from S))) + (m_fr T S g)) rfl (i_toNat (by omega)) (rfl) ?_
      refine Pv.aload rfl rfl ?_
      refine Pv.getR (v := .ref 71) rfl rfl (GW.at (a := 69) (k := 6) (b := 71) hx14 (by decide)) ?_
      refine Pv.lit rfl ?_
      refine Pv.iload rfl rfl ?_
      refine Pv.iload rfl rfl ?_
      refine Pv.callI (as := [.int (Int32.ofNat g), .int (Int32.ofNat (1 - m_from S))]) (rest := [.int 160, .ref 71]) (z := Int32.ofNat (2 * g + (1 - m_from S))) rfl rfl rfl (g_cell (g := g) (s := 1 - m_from S)) ?_
      refine Pv.bin (z := Int32.ofNat (160 + (2 * g + (1 - m_from S)))) rfl (i_add 160 (2 * g + (1 - m_from S))) ?_
      refine Pv.dup2 rfl ?_
      refine Pv.ald (z := (m_cC T S g) (2 * g + (1 - m_from S))) rfl (by rw [i_toNat (by omega)]; exact (fp_ne (Or.inr (by omega))).trans ((fp_ne (Or.inr (by omega))).trans (hB_c _ (by omega)))) ?_
      refine Pv.iload rfl rfl ?_
      refine Pv.bin (z := ((m_cC T S g) (2 * g + (1 - m_from S))) + (m_fr T S g)) rfl (rfl) ?_
      refine Pv.astk (k := 160 + (2 * g + (1 - m_from S))) (z := ((m_cC T S g) (2 * g + (1 - m_from S))) + (m_fr T S g)) rfl (i_toNat (by omega)) (rfl) ?_
      refine Pv.aload rfl rfl ?_
      refine Pv.dup rfl ?_
      refine Pv.getI (z := t_l T - m_pg T S g) rfl rfl ((fp_ne (Or.inl (by decide))).trans ((fp_ne (Or.inl (by decide))).trans ((fp_ne (Or.inl (by decide))).trans (hBr)))) ?_
      refine Pv.iload rfl rfl ?_
      refine Pv.bin (z := (t_l T - m_pg T S g) - (m_fr T S g)) rfl (rfl) ?_
      refine Pv.putI rfl rfl ?_
      refine Pv.iinc (y := Int32.ofNat (g + 1)) (lo' := [some (.ref 69), some (.int (Int32.ofNat (1 - m_from S))), some (.int (m_board T S)), some (.int (Int32.ofNat (g + 1))), some (.int (m_fr T S g))]) rfl rfl (i_add g 1) rfl ?_
      refine Pv.goto rfl ?_
      exact ih12 (g + 1, (fp (fp (fp (fp GB 71 (124 + (2 * g + (m_from S))) (((m_cS T S g) (2 * g + (m_from S))) - (m_fr T S g))) 71 (124 + (2 * g + (1 - m_from S))) (((m_cS T S g) (2 * g + (1 - m_from S))) + (m_fr T S g))) 71 (160 + (2 * g + (1 - m_from S))) (((m_cC T S g) (2 * g + (1 - m_from S))) + (m_fr T S g))) 69 22 ((t_l T - m_pg T S g) - (m_fr T S g))), (some (.int (m_fr T S g)))) (⟨by omega, ((((hxGB).s (by omega) (by omega)).s (by omega) (by omega)).s (by omega) (by omega)).r, (fp_ne (Or.inl (by decide))).trans ((fp_ne (Or.inr (by omega))).trans ((fp_ne (Or.inr (by omega))).trans ((fp_ne (Or.inr (by omega))).trans (hB0)))), (fp_ne (Or.inl (by decide))).trans ((fp_ne (Or.inr (by omega))).trans ((fp_ne (Or.inr (by omega))).trans ((fp_ne (Or.inr (by omega))).trans (hB1)))), (fp_ne (Or.inl (by decide))).trans ((fp_ne (Or.inr (by omega))).trans ((fp_ne (Or.inr (by omega))).trans ((fp_ne (Or.inr (by omega))).trans (hB2)))), (fp_ne (Or.inl (by decide))).trans ((fp_ne (Or.inr (by omega))).trans ((fp_ne (Or.inr (by omega))).trans ((fp_ne (Or.inr (by omega))).trans (hB3)))), (fp_ne (Or.inl (by decide))).trans ((fp_ne (Or.inr (by omega))).trans ((fp_ne (Or.inr (by omega))).trans ((fp_ne (Or.inr (by omega))).trans (hBd)))), (fp_eq).trans (i_ss _ _ _), ((((hB_s).up).up).ne (by omega)).no (by decide), ((((hB_h).ne (by omega)).ne (by omega)).ne (by omega)).no (by decide), ((((hB_u).ne (by omega)).ne (by omega)).ne (by omega)).no (by decide), ((((hB_c).ne (by omega)).ne (by omega)).up).no (by decide), ((((hB_t).ne (by omega)).ne (by omega)).ne (by omega)).no (by decide), fun j hj l => (fp_ne (Or.inl (by decide))).trans ((fp_ne (Or.inr (by omega))).trans ((fp_ne (Or.inr (by omega))).trans ((fp_ne (Or.inr (by omega))).trans (hBt j hj l)))), fun a b ha hb hn l1 l2 => (fp_ne (Or.inl (by decide))).trans ((fp_ne (Or.inr (by omega))).trans ((fp_ne (Or.inr (by omega))).trans ((fp_ne (Or.inr (by omega))).trans (hBp a b ha hb hn l1 l2))))⟩)
  · skip
    replace c7 := mt (i_le (a := t_m T) (b := k) (by omega) (by omega)).mpr (of_decide_eq_false c7)
    refine Pv.iload rfl rfl ?_
    refine Pv.iload rfl rfl ?_
    refine Pv.callI (as := [.int (m_board T S), .int (Int32.ofNat k)]) (rest := []) (z := b2i (xbit (m_board T S) k)) rfl rfl rfl (g_bitOf (x := m_board T S) (k := k)) ?_
    refine Pv.if0 rfl (fun c45 => ?_) (fun c45 => ?_)
    · skip
      replace c45 : decide (b2i (xbit (m_board T S) k) = 0) = false := by simpa using c45
      replace c45 := of_decide_eq_false c45
      replace c45 := b2n.mp c45
      have eb : m_bit (m_board T S) k = true := by rw [m_bit_bt (by omega), ← xbit_bt (by omega)]; exact c45
      refine Pv.aload rfl rfl ?_
      refine Pv.getR (v := .ref 71) rfl rfl (GW.at (a := 69) (k := 6) (b := 71) hx6 (by decide)) ?_
      refine Pv.lit rfl ?_
      refine Pv.iload rfl rfl ?_
      refine Pv.bin (z := Int32.ofNat (172 + k)) rfl (i_add 172 k) ?_
      refine Pv.iload rfl rfl ?_
      refine Pv.astk (k := 172 + k) (z := Int32.ofNat (1 - m_from S)) rfl (i_toNat (by omega)) (rfl) ?_
      refine Pv.aload rfl rfl ?_
      refine Pv.getR (v := .ref 71) rfl rfl (GW.at (a := 69) (k := 6) (b := 71) hx6 (by decide)) ?_
      refine Pv.lit rfl ?_
      refine Pv.iload rfl rfl ?_
      refine Pv.bin (z := Int32.ofNat (181 + k)) rfl (i_add 181 k) ?_
      refine Pv.dup2 rfl ?_
      refine Pv.ald (z := (m_cT T S k) k) rfl (by rw [i_toNat (by omega)]; exact (fp_ne (Or.inr (by omega))).trans (hA_t _ (by omega))) ?_
      refine Pv.lit rfl ?_
      refine Pv.bin (z := ((m_cT T S k) k) + 1) rfl (rfl) ?_
      refine Pv.astk (k := 181 + k) (z := ((m_cT T S k) k) + 1) rfl (i_toNat (by omega)) (rfl) ?_
      refine Pv.iinc (y := Int32.ofNat (k + 1)) (lo' := [some (.ref 69), some (.int (Int32.ofNat (1 - m_from S))), some (.int (m_board T S)), some (.int (Int32.ofNat (k + 1))), none]) rfl rfl (i_add k 1) rfl ?_
      refine Pv.goto rfl ?_
      exact ih4 (k + 1, (fp (fp GA 71 (172 + k) (Int32.ofNat (1 - m_from S))) 71 (181 + k) (((m_cT T S k) k) + 1))) (⟨by omega, ((hxGA).s (by omega) (by omega)).s (by omega) (by omega), (fp_ne (Or.inr (by omega))).trans ((fp_ne (Or.inr (by omega))).trans (hA0)), (fp_ne (Or.inr (by omega))).trans ((fp_ne (Or.inr (by omega))).trans (hA1)), (fp_ne (Or.inr (by omega))).trans ((fp_ne (Or.inr (by omega))).trans (hA2)), (fp_ne (Or.inr (by omega))).trans ((fp_ne (Or.inr (by omega))).trans (hA3)), (fp_ne (Or.inr (by omega))).trans ((fp_ne (Or.inr (by omega))).trans (hAd)), (fp_ne (Or.inl (by decide))).trans ((fp_ne (Or.inl (by decide))).trans (hAr)), ((hA_s).ne (by omega)).ne (by omega), ((hA_h).ne (by omega)).ne (by omega), ((hA_u).ne (by omega)).ne (by omega), ((hA_c).ne (by omega)).ne (by omega), (((hA_t).ne (by omega)).up).eq ((if_pos eb).symm), fun j hj l => by rw [show m_cA T S (k + 1) = up1 (m_cA T S k) k (Int32.ofNat (1 - m_from S)) from if_pos eb]; exact Or.elim (Classical.em (j = k)) (fun e => by rw [e, up1_eq]; exact (fp_ne (Or.inr (by omega))).trans (fp_eq)) (fun e => by rw [up1_ne e]; exact (fp_ne (Or.inr (by omega))).trans ((fp_ne (Or.inr (by omega))).trans (hAt j hj l))), fun a b ha hb hn l1 l2 => (fp_ne (Or.inr (by omega))).trans ((fp_ne (Or.inr (by omega))).trans (hAp a b ha hb hn l1 l2))⟩)
    · skip
      replace c45 : decide (b2i (xbit (m_board T S) k) = 0) = true := by simpa using c45
      replace c45 := of_decide_eq_true c45
      replace c45 := b2z.mp c45
      have eb : m_bit (m_board T S) k = false := by rw [m_bit_bt (by omega), ← xbit_bt (by omega)]; exact c45
      refine Pv.goto rfl ?_
      refine Pv.iinc (y := Int32.ofNat (k + 1)) (lo' := [some (.ref 69), some (.int (Int32.ofNat (1 - m_from S))), some (.int (m_board T S)), some (.int (Int32.ofNat (k + 1))), none]) rfl rfl (i_add k 1) rfl ?_
      refine Pv.goto rfl ?_
      exact ih4 (k + 1, GA) (⟨by omega, hxGA, hA0, hA1, hA2, hA3, hAd, hAr, hA_s, hA_h, hA_u, hA_c, (hA_t).eq ((if_neg (by rw [eb]; decide)).symm), fun j hj l => (hAt j hj l).trans (congrFun (if_neg (by rw [eb]; decide)).symm j), fun a b ha hb hn l1 l2 => hAp a b ha hb hn l1 l2⟩)
set_option maxRecDepth 100000 in
set_option maxHeartbeats 4000000 in
theorem g_goesOn {F : FW} {n : Nat} {T : St} {S : Sh} (hT : XT F T) (hS : XS F (t_m T) S) (hG : GW F) (hTB : TBB T) (hSB : SB S) (hn : n < 2147483000) : Pm Z_X11_goesOn [.ref 69, .int (Int32.ofNat n)] F (fun r F' => r = some (.int (Int32.ofNat (h_d (m_days T S n) - h_d S))) ∧ RX F F' ∧ XS F' (t_m T) (m_days T S n)) := by
  refine Pm.of fun N => ?_
  obtain ⟨Q, hQ⟩ : ∃ Q : Option Value → FW → Prop, Q = (fun r F' => r = some (.int (Int32.ofNat (h_d (m_days T S n) - h_d S))) ∧ RX F F' ∧ XS F' (t_m T) (m_days T S n)) := ⟨_, rfl⟩
  rw [← hQ]
  have b3 := hT.mb
  have b4 := hT.nb
  have b5 := hT.gb
  have b6 := m_from_lt S
  have b7 := hS.db
  refine (show Pv (ab_T (L_X11_goesOn Z_X11_day)) N 0 [some (.ref 69), some (.int (Int32.ofNat n)), none] [] F Q from ?_)
  refine Pv.lit rfl ?_
  refine Pv.istore (lo' := [some (.ref 69), some (.int (Int32.ofNat n)), some (.int 0)]) rfl rfl ?_
  refine Pv.lp (ι := Nat × FW) (lof := fun ⟨k, G⟩ => [some (.ref 69), some (.int (Int32.ofNat n)), some (.int (Int32.ofNat k))]) (Ff := fun ⟨k, G⟩ => G) (P := fun ⟨k, G⟩ => k ≤ n ∧ RX F G ∧ XS G (t_m T) (m_days T S k) ∧ h_d (m_days T S k) = h_d S + k) ?_ (0, F) (⟨Nat.zero_le _, RX.rf, hS, rfl⟩)
  rintro N1 hN2 ⟨k, G⟩ hi3 ih4
  refine (show Pv _ _ 2 [some (.ref 69), some (.int (Int32.ofNat n)), some (.int (Int32.ofNat k))] [] G Q from ?_)
  obtain ⟨hk, hxG, hXS, hkd⟩ := hi3
  have hx5 := hxG.T hT
  have hx6 := hxG.G hG
  have bD := hXS.db
  refine Pv.iloadS rfl rfl ?_
  refine Pv.iload rfl rfl ?_
  refine Pv.icmp rfl (fun c7 => ?_) (fun c7 => ?_)
  · skip
    replace c7 := (i_le (a := n) (b := k) (by omega) (by omega)).mp (of_decide_eq_true c7)
    refine Pv.iload rfl rfl ?_
    exact Pv.ret rfl (by rw [hQ]; exact ⟨congrArg (fun z => some (Value.int (Int32.ofNat z))) (show k = h_d (m_days T S n) - h_d S by rw [show n = k by omega]; omega), hxG, by rw [show n = k by omega]; exact hXS⟩)
  · skip
    replace c7 := mt (i_le (a := n) (b := k) (by omega) (by omega)).mpr (of_decide_eq_false c7)
    refine Pv.aload rfl rfl ?_
    refine Pv.getR (v := .ref 71) rfl rfl (GW.at (a := 69) (k := 6) (b := 71) hx6 (by decide)) ?_
    refine Pv.lit rfl ?_
    refine Pv.ald (z := Int32.ofNat (h_d (m_days T S k))) rfl (hXS.d) ?_
    refine Pv.lit rfl ?_
    refine Pv.icmp rfl (fun c8 => ?_) (fun c8 => ?_)
    · skip
      replace c8 := (i_le (a := 400) (b := h_d (m_days T S k)) (by omega) (by omega)).mp (of_decide_eq_true c8)
      refine Pv.iload rfl rfl ?_
      exact Pv.ret rfl (by rw [hQ]; exact ⟨congrArg (fun z => some (Value.int (Int32.ofNat z))) (show k = h_d (m_days T S n) - h_d S by rw [m_days_e (T := T) (S := S) (show k ≤ n by omega) (show ¬ h_d (m_days T S k) < 400 by omega)]; omega), hxG, by rw [m_days_e (T := T) (S := S) (show k ≤ n by omega) (show ¬ h_d (m_days T S k) < 400 by omega)]; exact hXS⟩)
    · skip
      replace c8 := mt (i_le (a := 400) (b := h_d (m_days T S k)) (by omega) (by omega)).mpr (of_decide_eq_false c8)
      refine Pv.aload rfl rfl ?_
      refine Pv.callV (as := [.ref 69]) (rest := []) rfl rfl rfl (g_day hx5 hXS hx6 hTB (SB_days hTB hSB b5 k) (by omega)) ?_
      rintro _ G9 ⟨rfl, x10, xs12⟩
      have hx11 := RX.tr hxG x10
      have hx13 := hx11.T hT
      have hx14 := hx11.G hG
      refine (show Pv _ _ 24 [some (.ref 69), some (.int (Int32.ofNat n)), some (.int (Int32.ofNat k))] [] G9 Q from ?_)
      refine Pv.iinc (y := Int32.ofNat (k + 1)) (lo' := [some (.ref 69), some (.int (Int32.ofNat n)), some (.int (Int32.ofNat (k + 1)))]) rfl rfl (i_add k 1) rfl ?_
      refine Pv.goto rfl ?_
      exact ih4 (k + 1, G9) (⟨by omega, hx11, by rw [m_days_s (by omega)]; exact xs12, by rw [m_days_s (by omega)]; show h_d (m_days T S k) + 1 = _; omega⟩)
