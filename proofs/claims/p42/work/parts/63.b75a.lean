set_option maxRecDepth 100000 in
set_option maxHeartbeats 4000000 in
theorem g_isSmall {F : FW} (x : Int32) : Pm Z_X11_isSmall [.int x] F (fun r F' => r = some (.int (b2i (smL x))) ∧ F' = F) := by
  refine Pm.of fun N => ?_
  obtain ⟨Q, hQ⟩ : ∃ Q : Option Value → FW → Prop, Q = (fun r F' => r = some (.int (b2i (smL x))) ∧ F' = F) := ⟨_, rfl⟩
  rw [← hQ]
  refine (show Pv (ab_T L_X11_isSmall) N 0 [some (.int x)] [] F Q from ?_)
  refine Pv.iload rfl rfl ?_
  refine Pv.lit rfl ?_
  refine Pv.icmp rfl (fun c1 => ?_) (fun c1 => ?_)
  · skip
    replace c1 := of_decide_eq_true c1
    refine Pv.lit rfl ?_
    exact Pv.zret rfl (by rw [hQ]; exact ⟨b2_f (by unfold smL; rw [decide_eq_false (Int32.not_le.mpr c1)]; rfl), rfl⟩)
  · skip
    replace c1 := of_decide_eq_false c1
    refine Pv.iload rfl rfl ?_
    refine Pv.lit rfl ?_
    refine Pv.icmp rfl (fun c2 => ?_) (fun c2 => ?_)
    · skip
      replace c2 := of_decide_eq_true c2
      refine Pv.lit rfl ?_
      exact Pv.zret rfl (by rw [hQ]; exact ⟨b2_f (by unfold smL; rw [decide_eq_false (Int32.not_le.mpr c2), Bool.and_false]), rfl⟩)
    · skip
      replace c2 := of_decide_eq_false c2
      refine Pv.lit rfl ?_
      refine Pv.goto rfl ?_
      exact Pv.zret rfl (by rw [hQ]; exact ⟨b2_t (by unfold smL; rw [decide_eq_true (Int32.not_lt.mp c1), decide_eq_true (Int32.not_lt.mp c2)]; rfl), rfl⟩)
set_option maxRecDepth 100000 in
set_option maxHeartbeats 4000000 in
theorem g_isDigit {F : FW} (x : Int32) : Pm Z_X11_isDigit [.int x] F (fun r F' => r = some (.int (b2i (dgL x))) ∧ F' = F) := by
  refine Pm.of fun N => ?_
  obtain ⟨Q, hQ⟩ : ∃ Q : Option Value → FW → Prop, Q = (fun r F' => r = some (.int (b2i (dgL x))) ∧ F' = F) := ⟨_, rfl⟩
  rw [← hQ]
  refine (show Pv (ab_T L_X11_isDigit) N 0 [some (.int x)] [] F Q from ?_)
  refine Pv.iload rfl rfl ?_
  refine Pv.lit rfl ?_
  refine Pv.icmp rfl (fun c1 => ?_) (fun c1 => ?_)
  · skip
    replace c1 := of_decide_eq_true c1
    refine Pv.lit rfl ?_
    exact Pv.zret rfl (by rw [hQ]; exact ⟨b2_f (by unfold dgL; rw [decide_eq_false (Int32.not_le.mpr c1)]; rfl), rfl⟩)
  · skip
    replace c1 := of_decide_eq_false c1
    refine Pv.iload rfl rfl ?_
    refine Pv.lit rfl ?_
    refine Pv.icmp rfl (fun c2 => ?_) (fun c2 => ?_)
    · skip
      replace c2 := of_decide_eq_true c2
      refine Pv.lit rfl ?_
      exact Pv.zret rfl (by rw [hQ]; exact ⟨b2_f (by unfold dgL; rw [decide_eq_false (Int32.not_le.mpr c2), Bool.and_false]), rfl⟩)
    · skip
      replace c2 := of_decide_eq_false c2
      refine Pv.lit rfl ?_
      refine Pv.goto rfl ?_
      exact Pv.zret rfl (by rw [hQ]; exact ⟨b2_t (by unfold dgL; rw [decide_eq_true (Int32.not_lt.mp c1), decide_eq_true (Int32.not_lt.mp c2)]; rfl), rfl⟩)
set_option maxRecDepth 100000 in
set_option maxHeartbeats 4000000 in
theorem g_peek {F F0 : FW} {p n : Nat} (hG : GW F) (h4 : F.1 69 4 = Int32.ofNat p) (h3 : F.1 69 3 = Int32.ofNat n) (hp : p ≤ 2000) (hn : n ≤ 940) (hB : ∀ q, F.1 70 q = F0.1 70 q) : Pm Z_X11_peek [.ref 69] F (fun r F' => r = some (.int (pkw F0 n p)) ∧ F' = F) := by
  refine Pm.of fun N => ?_
  obtain ⟨Q, hQ⟩ : ∃ Q : Option Value → FW → Prop, Q = (fun r F' => r = some (.int (pkw F0 n p)) ∧ F' = F) := ⟨_, rfl⟩
  rw [← hQ]
  refine (show Pv (ab_T L_X11_peek) N 0 [some (.ref 69)] [] F Q from ?_)
  refine Pv.aload rfl rfl ?_
  refine Pv.getI (z := Int32.ofNat p) rfl rfl (h4) ?_
  refine Pv.aload rfl rfl ?_
  refine Pv.getI (z := Int32.ofNat n) rfl rfl (h3) ?_
  refine Pv.icmp rfl (fun c1 => ?_) (fun c1 => ?_)
  · skip
    replace c1 := (i_le (a := n) (b := p) (by omega) (by omega)).mp (of_decide_eq_true c1)
    refine Pv.lit rfl ?_
    exact Pv.ret rfl (by rw [hQ]; exact ⟨by rw [pkw_ge (F := F0) (n := n) (q := p) (by omega)], rfl⟩)
  · skip
    replace c1 := mt (i_le (a := n) (b := p) (by omega) (by omega)).mpr (of_decide_eq_false c1)
    refine Pv.aload rfl rfl ?_
    refine Pv.getR (v := .ref 70) rfl rfl (GW.at (a := 69) (k := 1) (b := 70) hG (by decide)) ?_
    refine Pv.aload rfl rfl ?_
    refine Pv.getI (z := Int32.ofNat p) rfl rfl (h4) ?_
    refine Pv.ald (z := F0.1 70 p) rfl (by rw [i_toNat (by omega)]; exact hB _) ?_
    refine Pv.lit rfl ?_
    refine Pv.bin (z := (F0.1 70 p) &&& 255) rfl (rfl) ?_
    refine Pv.goto rfl ?_
    exact Pv.ret rfl (by rw [hQ]; exact ⟨by rw [pkw_lt (F := F0) (n := n) (q := p) (by omega)]; rfl, rfl⟩)
set_option maxRecDepth 100000 in
set_option maxHeartbeats 4000000 in
theorem g_nx298 {F F0 : FW} {B : Nat → Int} {q m : Nat} {sm al : Bool} {x : Int32} {w : Int64} (hG : GW F) (hx : RNX F0 F) (h4 : F.1 69 4 = Int32.ofNat (q + m)) (h12 : F.1 69 12 = Int32.ofNat q) (h13 : F.1 69 13 = Int32.ofNat m) (h14 : F.1 69 14 = x) (h17 : F.2.2.1 69 17 = w) (hm : 1 ≤ m) (hqm : q + m ≤ 940) (hsm : cls sm (B q) = true) (hal : al = allP (cls sm) B q m) (hw7 : m ≤ 7 → w.toInt = wd B q m) (hx3 : allP (cls false) B q m = true → m ≤ 3 → x.toInt = nb B q m) (o : Option Value) (N : Nat) : Pv (ab_T (L_X11_next Z_X11_peek Z_X11_isSmall Z_X11_isDigit)) N 298 [some (.ref 69), o, some (.int (b2i sm)), some (.int (b2i al))] [] F (fun r F' => r = none ∧ RNX F0 F' ∧ NTF F' (trn B q m)) := by
  obtain ⟨Q, hQ⟩ : ∃ Q : Option Value → FW → Prop, Q = (fun r F' => r = none ∧ RNX F0 F' ∧ NTF F' (trn B q m)) := ⟨_, rfl⟩
  rw [← hQ]
  refine (show Pv (ab_T (L_X11_next Z_X11_peek Z_X11_isSmall Z_X11_isDigit)) N 298 [some (.ref 69), o, some (.int (b2i sm)), some (.int (b2i al))] [] F Q from ?_)
  refine Pv.aload rfl rfl ?_
  refine Pv.iload rfl rfl ?_
  refine Pv.if0 rfl (fun c1 => ?_) (fun c1 => ?_)
  · skip
    replace c1 := of_decide_eq_true c1
    replace c1 := b2z.mp c1
    refine Pv.lit rfl ?_
    refine Pv.goto rfl ?_
    refine Pv.putI rfl rfl ?_
    have TK : trn B q m = ⟨1, q, 0, q + m⟩ := run_no hm hsm (Or.inl (hal.symm.trans c1))
    exact Pv.vret rfl (by rw [hQ]; exact ⟨rfl, RNX.fp hx (Or.inr (Or.inl rfl)), by rw [TK]; exact ⟨(congrArg Int32.toInt ((fp_ne (Or.inr (by decide))).trans (h12))).trans (i_toInt (by omega)), (fp_ne (Or.inr (by decide))).trans (h4), (congrArg Int32.toInt (fp_eq)).trans (rfl), fun e => absurd e (by show rkk 1 ≠ 2; decide), fun e => absurd e (by show rkk 1 ≠ 3; decide), fun e => absurd e (by show rkk 1 ≠ 1; decide)⟩⟩)
  · skip
    replace c1 := of_decide_eq_false c1
    replace c1 := b2n.mp c1
    refine Pv.aload rfl rfl ?_
    refine Pv.getI (z := Int32.ofNat m) rfl rfl (h13) ?_
    refine Pv.iload rfl rfl ?_
    refine Pv.if0 rfl (fun c2 => ?_) (fun c2 => ?_)
    · skip
      replace c2 := of_decide_eq_true c2
      replace c2 := b2z.mp c2
      refine Pv.lit rfl ?_
      refine Pv.icmp rfl (fun c3 => ?_) (fun c3 => ?_)
      · skip
        replace c3 := (i_le (a := m) (b := 3) (by omega) (by omega)).mp (of_decide_eq_true c3)
        refine Pv.iload rfl rfl ?_
        refine Pv.if0 rfl (fun c4 => ?_) (fun c4 => ?_)
        · skip
          replace c4 := of_decide_eq_true c4
          replace c4 := b2z.mp c4
          refine Pv.lit rfl ?_
          refine Pv.putI rfl rfl ?_
          have es : sm = false := c2
          subst es
          have ea : allP (cls false) B q m = true := hal.symm.trans c1
          have TK : trn B q m = ⟨3, q, nb B q m, q + m⟩ := run_d hm hsm ea (by omega)
          exact Pv.vret rfl (by rw [hQ]; exact ⟨rfl, RNX.fp hx (Or.inr (Or.inl rfl)), by rw [TK]; exact ⟨(congrArg Int32.toInt ((fp_ne (Or.inr (by decide))).trans (h12))).trans (i_toInt (by omega)), (fp_ne (Or.inr (by decide))).trans (h4), (congrArg Int32.toInt (fp_eq)).trans (rfl), fun _ => (congrArg Int32.toInt ((fp_ne (Or.inr (by decide))).trans (h14))).trans (hx3 ea (by omega)), fun e => absurd e (by show rkk 3 ≠ 3; decide), fun e => absurd e (by show rkk 3 ≠ 1; decide)⟩⟩)
        · skip
          replace c4 := of_decide_eq_false c4
          replace c4 := b2n.mp c4
          exact absurd (c2.symm.trans c4) (by decide)
      · skip
        replace c3 := mt (i_le (a := m) (b := 3) (by omega) (by omega)).mpr (of_decide_eq_false c3)
        refine Pv.lit rfl ?_
        refine Pv.goto rfl ?_
        refine Pv.putI rfl rfl ?_
        have es : sm = false := c2
        have TK : trn B q m = ⟨1, q, 0, q + m⟩ := run_no hm hsm (Or.inr (by rw [es]; exact (show 3 < m by omega)))
        exact Pv.vret rfl (by rw [hQ]; exact ⟨rfl, RNX.fp hx (Or.inr (Or.inl rfl)), by rw [TK]; exact ⟨(congrArg Int32.toInt ((fp_ne (Or.inr (by decide))).trans (h12))).trans (i_toInt (by omega)), (fp_ne (Or.inr (by decide))).trans (h4), (congrArg Int32.toInt (fp_eq)).trans (rfl), fun e => absurd e (by show rkk 1 ≠ 2; decide), fun e => absurd e (by show rkk 1 ≠ 3; decide), fun e => absurd e (by show rkk 1 ≠ 1; decide)⟩⟩)
    · skip
      replace c2 := of_decide_eq_false c2
      replace c2 := b2n.mp c2
      refine Pv.lit rfl ?_
      refine Pv.goto rfl ?_
      refine Pv.icmp rfl (fun c5 => ?_) (fun c5 => ?_)
      · skip
        replace c5 := (i_le (a := m) (b := 7) (by omega) (by omega)).mp (of_decide_eq_true c5)
        refine Pv.iload rfl rfl ?_
        refine Pv.if0 rfl (fun c6 => ?_) (fun c6 => ?_)
        · skip
          replace c6 := of_decide_eq_true c6
          replace c6 := b2z.mp c6
          exact absurd (c2.symm.trans c6) (by decide)
        · skip
          replace c6 := of_decide_eq_false c6
          replace c6 := b2n.mp c6
          refine Pv.lit rfl ?_
          refine Pv.goto rfl ?_
          refine Pv.putI rfl rfl ?_
          have es : sm = true := c2
          subst es
          have ea : allP (cls true) B q m = true := hal.symm.trans c1
          have TK : trn B q m = ⟨kw (pv B q m), q, wd B q m, q + m⟩ := run_l ea (by omega)
          exact Pv.vret rfl (by rw [hQ]; exact ⟨rfl, RNX.fp hx (Or.inr (Or.inl rfl)), by rw [TK]; exact ⟨(congrArg Int32.toInt ((fp_ne (Or.inr (by decide))).trans (h12))).trans (i_toInt (by omega)), (fp_ne (Or.inr (by decide))).trans (h4), (congrArg Int32.toInt (fp_eq)).trans ((show (1 : Int32).toInt = rkk (kw (pv B q m)) by rw [rkk_word]; rfl)), fun e => absurd e (by show rkk (kw (pv B q m)) ≠ 2; rw [rkk_word]; decide), fun e => absurd e (by show rkk (kw (pv B q m)) ≠ 3; rw [rkk_word]; decide), fun _ => (congrArg Int64.toInt ((fp_l).trans (h17))).trans (hw7 (by omega))⟩⟩)
      · skip
        replace c5 := mt (i_le (a := m) (b := 7) (by omega) (by omega)).mpr (of_decide_eq_false c5)
        refine Pv.lit rfl ?_
        refine Pv.goto rfl ?_
        refine Pv.putI rfl rfl ?_
        have es : sm = true := c2
        have TK : trn B q m = ⟨1, q, 0, q + m⟩ := run_no hm hsm (Or.inr (by rw [es]; exact (show 7 < m by omega)))
        exact Pv.vret rfl (by rw [hQ]; exact ⟨rfl, RNX.fp hx (Or.inr (Or.inl rfl)), by rw [TK]; exact ⟨(congrArg Int32.toInt ((fp_ne (Or.inr (by decide))).trans (h12))).trans (i_toInt (by omega)), (fp_ne (Or.inr (by decide))).trans (h4), (congrArg Int32.toInt (fp_eq)).trans (rfl), fun e => absurd e (by show rkk 1 ≠ 2; decide), fun e => absurd e (by show rkk 1 ≠ 3; decide), fun e => absurd e (by show rkk 1 ≠ 1; decide)⟩⟩)
set_option maxRecDepth 100000 in
set_option maxHeartbeats 4000000 in
theorem g_nx181 {F F0 : FW} {q n : Nat} {sm : Bool} (hG : GW F) (hx : RNX F0 F) (hB : ∀ k, F.1 70 k = F0.1 70 k) (h3 : F.1 69 3 = Int32.ofNat n) (h4 : F.1 69 4 = Int32.ofNat q) (h12 : F.1 69 12 = Int32.ofNat q) (h13 : F.1 69 13 = 0) (h14 : F.1 69 14 = 0) (h17 : F.2.2.1 69 17 = 0) (hn : n ≤ 940) (hqn : q < n) (hsm : cls sm ((RBF F0 n) q) = true) (hfr : tk_r ((RBF F0 n) q) = true) (o : Option Value) (N : Nat) : Pv (ab_T (L_X11_next Z_X11_peek Z_X11_isSmall Z_X11_isDigit)) N 181 [some (.ref 69), o, some (.int (b2i sm)), some (.int 1)] [] F (fun r F' => r = none ∧ RNX F0 F' ∧ NTF F' (trn (RBF F0 n) q (tk_e tk_r (RBF F0 n) n q - q))) := by
  obtain ⟨Q, hQ⟩ : ∃ Q : Option Value → FW → Prop, Q = (fun r F' => r = none ∧ RNX F0 F' ∧ NTF F' (trn (RBF F0 n) q (tk_e tk_r (RBF F0 n) n q - q))) := ⟨_, rfl⟩
  rw [← hQ]
  refine (show Pv (ab_T (L_X11_next Z_X11_peek Z_X11_isSmall Z_X11_isDigit)) N 181 [some (.ref 69), o, some (.int (b2i sm)), some (.int 1)] [] F Q from ?_)
  refine Pv.lp (ι := Int32 × FW × Nat × Int32 × Int64) (lof := fun ⟨a, G, m, x, w⟩ => [some (.ref 69), o, some (.int (b2i sm)), some (.int a)]) (Ff := fun ⟨a, G, m, x, w⟩ => G) (P := fun ⟨a, G, m, x, w⟩ => (m ≤ n - q) ∧ (RNX F0 G) ∧ (GW G) ∧ (∀ k, G.1 70 k = F0.1 70 k) ∧ (G.1 69 3 = Int32.ofNat n) ∧ (G.1 69 4 = Int32.ofNat (q + m)) ∧ (G.1 69 12 = Int32.ofNat q) ∧ (G.1 69 13 = Int32.ofNat m) ∧ (G.1 69 14 = x) ∧ (G.2.2.1 69 17 = w) ∧ (tk_e tk_r (RBF F0 n) n (q + m) = tk_e tk_r (RBF F0 n) n q) ∧ (a = b2i (allP (cls sm) (RBF F0 n) q m)) ∧ (m ≤ 7 → w.toInt = wd (RBF F0 n) q m) ∧ (allP (cls false) (RBF F0 n) q m = true → m ≤ 3 → x.toInt = nb (RBF F0 n) q m)) ?_ (1, F, 0, 0, 0) (⟨Nat.zero_le _, hx, hG, hB, h3, h4, h12, h13, h14, h17, rfl, rfl, fun _ => rfl, fun _ _ => rfl⟩)
  rintro N1 hN2 ⟨a, G, m, x, w⟩ hi3 ih4
  refine (show Pv _ _ 181 [some (.ref 69), o, some (.int (b2i sm)), some (.int a)] [] G Q from ?_)
  obtain ⟨hmn, hxG, hGG, hBG, g3, g4, g12, g13, g14, g17, hrun, ha, hw7, hx3⟩ := hi3
  refine Pv.aloadS rfl rfl ?_
  refine Pv.callVI (as := [.ref 69]) (rest := []) (z := pkw F0 n (q + m)) rfl rfl rfl (g_peek (F0 := F0) (p := q + m) (n := n) hGG (g4) (g3) (by omega) (by omega) (fun q => hBG _)) ?_
  refine Pv.callI (as := [.int (pkw F0 n (q + m))]) (rest := []) (z := b2i (smL (pkw F0 n (q + m)))) rfl rfl rfl (g_isSmall (pkw F0 n (q + m))) ?_
  refine Pv.if0 rfl (fun c5 => ?_) (fun c5 => ?_)
  · skip
    replace c5 : decide (b2i (smL (pkw F0 n (q + m))) = 0) = false := by simpa using c5
    replace c5 := of_decide_eq_false c5
    replace c5 := b2n.mp c5
    have hq2 := sm_t c5
    have hr : tk_r ((RBF F0 n) (q + m)) = true := tk_r_l hq2.2
    have hq1 : q + m < n := hq2.1
    refine Pv.iload rfl rfl ?_
    refine Pv.if0 rfl (fun c6 => ?_) (fun c6 => ?_)
    · skip
      replace c6 := of_decide_eq_true c6
      refine Pv.lit rfl ?_
      refine Pv.istore (lo' := [some (.ref 69), o, some (.int (b2i sm)), some (.int 0)]) rfl rfl ?_
      refine Pv.aload rfl rfl ?_
      refine Pv.getI (z := Int32.ofNat m) rfl rfl (g13) ?_
      refine Pv.lit rfl ?_
      refine Pv.icmp rfl (fun c7 => ?_) (fun c7 => ?_)
      · skip
        replace c7 := (i_le (a := 7) (b := m) (by omega) (by omega)).mp (of_decide_eq_true c7)
        refine Pv.aload rfl rfl ?_
        refine Pv.getI (z := Int32.ofNat m) rfl rfl (g13) ?_
        refine Pv.lit rfl ?_
        refine Pv.icmp rfl (fun c8 => ?_) (fun c8 => ?_)
        · skip
          replace c8 := (i_le (a := 3) (b := m) (by omega) (by omega)).mp (of_decide_eq_true c8)
          refine Pv.aload rfl rfl ?_
          refine Pv.dup rfl ?_
          refine Pv.getI (z := Int32.ofNat m) rfl rfl (g13) ?_
          refine Pv.lit rfl ?_
          refine Pv.bin (z := Int32.ofNat (m + 1)) rfl (i_add m 1) ?_
          refine Pv.putI rfl rfl ?_
          refine Pv.aload rfl rfl ?_
          refine Pv.dup rfl ?_
          refine Pv.getI (z := Int32.ofNat (q + m)) rfl rfl ((fp_ne (Or.inr (by decide))).trans (g4)) ?_
          refine Pv.lit rfl ?_
          refine Pv.bin (z := Int32.ofNat ((q + m) + 1)) rfl (i_add (q + m) 1) ?_
          refine Pv.putI rfl rfl ?_
          refine Pv.goto rfl ?_
          exact ih4 (0, (fp (fp G 69 13 (Int32.ofNat (m + 1))) 69 4 (Int32.ofNat ((q + m) + 1))), (m + 1), x, w) (⟨by omega, (RNX.fp (RNX.fp hxG (Or.inr (Or.inr (Or.inr (Or.inl rfl))))) (Or.inl rfl)), (fun y my => hGG y my), fun k => (fp_ne (Or.inl (by decide))).trans ((fp_ne (Or.inl (by decide))).trans (hBG _)), (fp_ne (Or.inr (by decide))).trans ((fp_ne (Or.inr (by decide))).trans (g3)), (fp_eq), (fp_ne (Or.inr (by decide))).trans ((fp_ne (Or.inr (by decide))).trans (g12)), (fp_ne (Or.inr (by decide))).trans (fp_eq), (fp_ne (Or.inr (by decide))).trans ((fp_ne (Or.inr (by decide))).trans (g14)), (fp_l).trans ((fp_l).trans (g17)), (congrArg (tk_e tk_r (RBF F0 n) n) (Nat.add_assoc q m 1).symm).trans ((tk_go hq1 hr).symm.trans hrun), all_z (ha.symm.trans c6), fun h => absurd h (by omega), fun h1 h2 => absurd h2 (by omega)⟩)
        · skip
          replace c8 := mt (i_le (a := 3) (b := m) (by omega) (by omega)).mpr (of_decide_eq_false c8)
          refine Pv.aload rfl rfl ?_
          refine Pv.lit rfl ?_
          refine Pv.aload rfl rfl ?_
          refine Pv.getI (z := x) rfl rfl (g14) ?_
          refine Pv.bin (z := 10 * x) rfl (rfl) ?_
          refine Pv.aload rfl rfl ?_
          refine Pv.callVI (as := [.ref 69]) (rest := [.int (10 * x), .ref 69]) (z := pkw F0 n (q + m)) rfl rfl rfl (g_peek (F0 := F0) (p := q + m) (n := n) hGG (g4) (g3) (by omega) (by omega) (fun q => hBG _)) ?_
          refine Pv.bin (z := (10 * x) + (pkw F0 n (q + m))) rfl (rfl) ?_
          refine Pv.lit rfl ?_
          refine Pv.bin (z := ((10 * x) + (pkw F0 n (q + m))) - 48) rfl (rfl) ?_
          refine Pv.putI rfl rfl ?_
          refine Pv.aload rfl rfl ?_
          refine Pv.dup rfl ?_
          refine Pv.getI (z := Int32.ofNat m) rfl rfl ((fp_ne (Or.inr (by decide))).trans (g13)) ?_
          refine Pv.lit rfl ?_
          refine Pv.bin (z := Int32.ofNat (m + 1)) rfl (i_add m 1) ?_
          refine Pv.putI rfl rfl ?_
          refine Pv.aload rfl rfl ?_
          refine Pv.dup rfl ?_
          refine Pv.getI (z := Int32.ofNat (q + m)) rfl rfl ((fp_ne (Or.inr (by decide))).trans ((fp_ne (Or.inr (by decide))).trans (g4))) ?_
          refine Pv.lit rfl ?_
          refine Pv.bin (z := Int32.ofNat ((q + m) + 1)) rfl (i_add (q + m) 1) ?_
          refine Pv.putI rfl rfl ?_
          refine Pv.goto rfl ?_
          exact ih4 (0, (fp (fp (fp G 69 14 (((10 * x) + (pkw F0 n (q + m))) - 48)) 69 13 (Int32.ofNat (m + 1))) 69 4 (Int32.ofNat ((q + m) + 1))), (m + 1), ((10 * x) + (pkw F0 n (q + m))) - 48, w) (⟨by omega, (RNX.fp (RNX.fp (RNX.fp hxG (Or.inr (Or.inr (Or.inr (Or.inr rfl))))) (Or.inr (Or.inr (Or.inr (Or.inl rfl))))) (Or.inl rfl)), (fun y my => hGG y my), fun k => (fp_ne (Or.inl (by decide))).trans ((fp_ne (Or.inl (by decide))).trans ((fp_ne (Or.inl (by decide))).trans (hBG _))), (fp_ne (Or.inr (by decide))).trans ((fp_ne (Or.inr (by decide))).trans ((fp_ne (Or.inr (by decide))).trans (g3))), (fp_eq), (fp_ne (Or.inr (by decide))).trans ((fp_ne (Or.inr (by decide))).trans ((fp_ne (Or.inr (by decide))).trans (g12))), (fp_ne (Or.inr (by decide))).trans (fp_eq), (fp_ne (Or.inr (by decide))).trans ((fp_ne (Or.inr (by decide))).trans (fp_eq)), (fp_l).trans ((fp_l).trans ((fp_l).trans (g17))), (congrArg (tk_e tk_r (RBF F0 n) n) (Nat.add_assoc q m 1).symm).trans ((tk_go hq1 hr).symm.trans hrun), all_z (ha.symm.trans c6), fun h => absurd h (by omega), fun h1 h2 => num3 (hx3 (all_1 h1) (by omega)) (all_1 h1) (by omega) (pkw_to hq1) (RB_b F0 n)⟩)
      · skip
        replace c7 := mt (i_le (a := 7) (b := m) (by omega) (by omega)).mpr (of_decide_eq_false c7)
        refine Pv.aload rfl rfl ?_
        refine Pv.aload rfl rfl ?_
        refine Pv.getL (z := w) rfl rfl (g17) ?_
        refine Pv.lit rfl ?_
        refine Pv.lsh (z := w <<< (Int32.toInt64 8 &&& 63)) rfl (rfl) ?_
        refine Pv.aload rfl rfl ?_
        refine Pv.callVI (as := [.ref 69]) (rest := [.long (w <<< (Int32.toInt64 8 &&& 63)), .ref 69]) (z := pkw F0 n (q + m)) rfl rfl rfl (g_peek (F0 := F0) (p := q + m) (n := n) hGG (g4) (g3) (by omega) (by omega) (fun q => hBG _)) ?_
        refine Pv.i2l (z := Int32.toInt64 (pkw F0 n (q + m))) rfl (rfl) ?_
        refine Pv.lbin (z := (w <<< (Int32.toInt64 8 &&& 63)) ||| (Int32.toInt64 (pkw F0 n (q + m)))) rfl (rfl) ?_
        refine Pv.putL rfl rfl ?_
        refine Pv.aload rfl rfl ?_
        refine Pv.getI (z := Int32.ofNat m) rfl rfl ((fpl_i).trans (g13)) ?_
        refine Pv.lit rfl ?_
        refine Pv.icmp rfl (fun c9 => ?_) (fun c9 => ?_)
        · skip
          replace c9 := (i_le (a := 3) (b := m) (by omega) (by omega)).mp (of_decide_eq_true c9)
          refine Pv.aload rfl rfl ?_
          refine Pv.dup rfl ?_
          refine Pv.getI (z := Int32.ofNat m) rfl rfl ((fpl_i).trans (g13)) ?_
          refine Pv.lit rfl ?_
          refine Pv.bin (z := Int32.ofNat (m + 1)) rfl (i_add m 1) ?_
          refine Pv.putI rfl rfl ?_
          refine Pv.aload rfl rfl ?_
          refine Pv.dup rfl ?_
          refine Pv.getI (z := Int32.ofNat (q + m)) rfl rfl ((fp_ne (Or.inr (by decide))).trans ((fpl_i).trans (g4))) ?_
          refine Pv.lit rfl ?_
          refine Pv.bin (z := Int32.ofNat ((q + m) + 1)) rfl (i_add (q + m) 1) ?_
          refine Pv.putI rfl rfl ?_
          refine Pv.goto rfl ?_
          exact ih4 (0, (fp (fp (fpl G 69 17 ((w <<< (Int32.toInt64 8 &&& 63)) ||| (Int32.toInt64 (pkw F0 n (q + m))))) 69 13 (Int32.ofNat (m + 1))) 69 4 (Int32.ofNat ((q + m) + 1))), (m + 1), x, (w <<< (Int32.toInt64 8 &&& 63)) ||| (Int32.toInt64 (pkw F0 n (q + m)))) (⟨by omega, (RNX.fp (RNX.fp (RNX.fl hxG) (Or.inr (Or.inr (Or.inr (Or.inl rfl))))) (Or.inl rfl)), (fun y my => hGG y my), fun k => (fp_ne (Or.inl (by decide))).trans ((fp_ne (Or.inl (by decide))).trans ((fpl_i).trans (hBG _))), (fp_ne (Or.inr (by decide))).trans ((fp_ne (Or.inr (by decide))).trans ((fpl_i).trans (g3))), (fp_eq), (fp_ne (Or.inr (by decide))).trans ((fp_ne (Or.inr (by decide))).trans ((fpl_i).trans (g12))), (fp_ne (Or.inr (by decide))).trans (fp_eq), (fp_ne (Or.inr (by decide))).trans ((fp_ne (Or.inr (by decide))).trans ((fpl_i).trans (g14))), (fp_l).trans ((fp_l).trans (fpl_eq)), (congrArg (tk_e tk_r (RBF F0 n) n) (Nat.add_assoc q m 1).symm).trans ((tk_go hq1 hr).symm.trans hrun), all_z (ha.symm.trans c6), fun h => or8 (RB_b F0 n) (hw7 (by omega)) (by omega) (pkw_to hq1), fun h1 h2 => absurd h2 (by omega)⟩)
        · skip
          replace c9 := mt (i_le (a := 3) (b := m) (by omega) (by omega)).mpr (of_decide_eq_false c9)
          refine Pv.aload rfl rfl ?_
          refine Pv.lit rfl ?_
          refine Pv.aload rfl rfl ?_
          refine Pv.getI (z := x) rfl rfl ((fpl_i).trans (g14)) ?_
          refine Pv.bin (z := 10 * x) rfl (rfl) ?_
          refine Pv.aload rfl rfl ?_
          refine Pv.callVI (as := [.ref 69]) (rest := [.int (10 * x), .ref 69]) (z := pkw F0 n (q + m)) rfl rfl rfl (g_peek (F0 := F0) (p := q + m) (n := n) (hGG.fx (P := fun _ => True) (((FX.rf (P := fun _ => True))).fpl trivial)) ((fpl_i).trans (g4)) ((fpl_i).trans (g3)) (by omega) (by omega) (fun q => (fpl_i).trans (hBG _))) ?_
          refine Pv.bin (z := (10 * x) + (pkw F0 n (q + m))) rfl (rfl) ?_
          refine Pv.lit rfl ?_
          refine Pv.bin (z := ((10 * x) + (pkw F0 n (q + m))) - 48) rfl (rfl) ?_
          refine Pv.putI rfl rfl ?_
          refine Pv.aload rfl rfl ?_
          refine Pv.dup rfl ?_
          refine Pv.getI (z := Int32.ofNat m) rfl rfl ((fp_ne (Or.inr (by decide))).trans ((fpl_i).trans (g13))) ?_
          refine Pv.lit rfl ?_
          refine Pv.bin (z := Int32.ofNat (m + 1)) rfl (i_add m 1) ?_
          refine Pv.putI rfl rfl ?_
          refine Pv.aload rfl rfl ?_
          refine Pv.dup rfl ?_
          refine Pv.getI (z := Int32.ofNat (q + m)) rfl rfl ((fp_ne (Or.inr (by decide))).trans ((fp_ne (Or.inr (by decide))).trans ((fpl_i).trans (g4)))) ?_
          refine Pv.lit rfl ?_
          refine Pv.bin (z := Int32.ofNat ((q + m) + 1)) rfl (i_add (q + m) 1) ?_
          refine Pv.putI rfl rfl ?_
          refine Pv.goto rfl ?_
          exact ih4 (0, (fp (fp (fp (fpl G 69 17 ((w <<< (Int32.toInt64 8 &&& 63)) ||| (Int32.toInt64 (pkw F0 n (q + m))))) 69 14 (((10 * x) + (pkw F0 n (q + m))) - 48)) 69 13 (Int32.ofNat (m + 1))) 69 4 (Int32.ofNat ((q + m) + 1))), (m + 1), ((10 * x) + (pkw F0 n (q + m))) - 48, (w <<< (Int32.toInt64 8 &&& 63)) ||| (Int32.toInt64 (pkw F0 n (q + m)))) (⟨by omega, (RNX.fp (RNX.fp (RNX.fp (RNX.fl hxG) (Or.inr (Or.inr (Or.inr (Or.inr rfl))))) (Or.inr (Or.inr (Or.inr (Or.inl rfl))))) (Or.inl rfl)), (fun y my => hGG y my), fun k => (fp_ne (Or.inl (by decide))).trans ((fp_ne (Or.inl (by decide))).trans ((fp_ne (Or.inl (by decide))).trans ((fpl_i).trans (hBG _)))), (fp_ne (Or.inr (by decide))).trans ((fp_ne (Or.inr (by decide))).trans ((fp_ne (Or.inr (by decide))).trans ((fpl_i).trans (g3)))), (fp_eq), (fp_ne (Or.inr (by decide))).trans ((fp_ne (Or.inr (by decide))).trans ((fp_ne (Or.inr (by decide))).trans ((fpl_i).trans (g12)))), (fp_ne (Or.inr (by decide))).trans (fp_eq), (fp_ne (Or.inr (by decide))).trans ((fp_ne (Or.inr (by decide))).trans (fp_eq)), (fp_l).trans ((fp_l).trans ((fp_l).trans (fpl_eq))), (congrArg (tk_e tk_r (RBF F0 n) n) (Nat.add_assoc q m 1).symm).trans ((tk_go hq1 hr).symm.trans hrun), all_z (ha.symm.trans c6), fun h => or8 (RB_b F0 n) (hw7 (by omega)) (by omega) (pkw_to hq1), fun h1 h2 => num3 (hx3 (all_1 h1) (by omega)) (all_1 h1) (by omega) (pkw_to hq1) (RB_b F0 n)⟩)
    · skip
      replace c6 := of_decide_eq_false c6
      refine Pv.aload rfl rfl ?_
      refine Pv.callVI (as := [.ref 69]) (rest := []) (z := pkw F0 n (q + m)) rfl rfl rfl (g_peek (F0 := F0) (p := q + m) (n := n) hGG (g4) (g3) (by omega) (by omega) (fun q => hBG _)) ?_
      refine Pv.callI (as := [.int (pkw F0 n (q + m))]) (rest := []) (z := b2i (smL (pkw F0 n (q + m)))) rfl rfl rfl (g_isSmall (pkw F0 n (q + m))) ?_
      rw [show (b2i (smL (pkw F0 n (q + m)))) = b2i (tk_l ((RBF F0 n) (q + m))) from congrArg b2i (sm_eq hq1)]
      refine Pv.iload rfl rfl ?_
      refine Pv.icmp rfl (fun c10 => ?_) (fun c10 => ?_)
      · skip
        replace c10 : decide (b2i (tk_l ((RBF F0 n) (q + m))) = b2i sm) = false := by simpa using c10
        replace c10 := of_decide_eq_false c10
        refine Pv.lit rfl ?_
        refine Pv.istore (lo' := [some (.ref 69), o, some (.int (b2i sm)), some (.int 0)]) rfl rfl ?_
        refine Pv.aload rfl rfl ?_
        refine Pv.getI (z := Int32.ofNat m) rfl rfl (g13) ?_
        refine Pv.lit rfl ?_
        refine Pv.icmp rfl (fun c11 => ?_) (fun c11 => ?_)
        · skip
          replace c11 := (i_le (a := 7) (b := m) (by omega) (by omega)).mp (of_decide_eq_true c11)
          refine Pv.aload rfl rfl ?_
          refine Pv.getI (z := Int32.ofNat m) rfl rfl (g13) ?_
          refine Pv.lit rfl ?_
          refine Pv.icmp rfl (fun c12 => ?_) (fun c12 => ?_)
          · skip
            replace c12 := (i_le (a := 3) (b := m) (by omega) (by omega)).mp (of_decide_eq_true c12)
            refine Pv.aload rfl rfl ?_
            refine Pv.dup rfl ?_
            refine Pv.getI (z := Int32.ofNat m) rfl rfl (g13) ?_
            refine Pv.lit rfl ?_
            refine Pv.bin (z := Int32.ofNat (m + 1)) rfl (i_add m 1) ?_
            refine Pv.putI rfl rfl ?_
            refine Pv.aload rfl rfl ?_
            refine Pv.dup rfl ?_
            refine Pv.getI (z := Int32.ofNat (q + m)) rfl rfl ((fp_ne (Or.inr (by decide))).trans (g4)) ?_
            refine Pv.lit rfl ?_
            refine Pv.bin (z := Int32.ofNat ((q + m) + 1)) rfl (i_add (q + m) 1) ?_
            refine Pv.putI rfl rfl ?_
            refine Pv.goto rfl ?_
            exact ih4 (0, (fp (fp G 69 13 (Int32.ofNat (m + 1))) 69 4 (Int32.ofNat ((q + m) + 1))), (m + 1), x, w) (⟨by omega, (RNX.fp (RNX.fp hxG (Or.inr (Or.inr (Or.inr (Or.inl rfl))))) (Or.inl rfl)), (fun y my => hGG y my), fun k => (fp_ne (Or.inl (by decide))).trans ((fp_ne (Or.inl (by decide))).trans (hBG _)), (fp_ne (Or.inr (by decide))).trans ((fp_ne (Or.inr (by decide))).trans (g3)), (fp_eq), (fp_ne (Or.inr (by decide))).trans ((fp_ne (Or.inr (by decide))).trans (g12)), (fp_ne (Or.inr (by decide))).trans (fp_eq), (fp_ne (Or.inr (by decide))).trans ((fp_ne (Or.inr (by decide))).trans (g14)), (fp_l).trans ((fp_l).trans (g17)), (congrArg (tk_e tk_r (RBF F0 n) n) (Nat.add_assoc q m 1).symm).trans ((tk_go hq1 hr).symm.trans hrun), all_n hr (fun e => c10 (congrArg b2i e)), fun h => absurd h (by omega), fun h1 h2 => absurd h2 (by omega)⟩)
          · skip
            replace c12 := mt (i_le (a := 3) (b := m) (by omega) (by omega)).mpr (of_decide_eq_false c12)
            refine Pv.aload rfl rfl ?_
            refine Pv.lit rfl ?_
            refine Pv.aload rfl rfl ?_
            refine Pv.getI (z := x) rfl rfl (g14) ?_
            refine Pv.bin (z := 10 * x) rfl (rfl) ?_
            refine Pv.aload rfl rfl ?_
            refine Pv.callVI (as := [.ref 69]) (rest := [.int (10 * x), .ref 69]) (z := pkw F0 n (q + m)) rfl rfl rfl (g_peek (F0 := F0) (p := q + m) (n := n) hGG (g4) (g3) (by omega) (by omega) (fun q => hBG _)) ?_
            refine Pv.bin (z := (10 * x) + (pkw F0 n (q + m))) rfl (rfl) ?_
            refine Pv.lit rfl ?_
            refine Pv.bin (z := ((10 * x) + (pkw F0 n (q + m))) - 48) rfl (rfl) ?_
            refine Pv.putI rfl rfl ?_
            refine Pv.aload rfl rfl ?_
            refine Pv.dup rfl ?_
            refine Pv.getI (z := Int32.ofNat m) rfl rfl ((fp_ne (Or.inr (by decide))).trans (g13)) ?_
            refine Pv.lit rfl ?_
            refine Pv.bin (z := Int32.ofNat (m + 1)) rfl (i_add m 1) ?_
            refine Pv.putI rfl rfl ?_
            refine Pv.aload rfl rfl ?_
            refine Pv.dup rfl ?_
            refine Pv.getI (z := Int32.ofNat (q + m)) rfl rfl ((fp_ne (Or.inr (by decide))).trans ((fp_ne (Or.inr (by decide))).trans (g4))) ?_
            refine Pv.lit rfl ?_
            refine Pv.bin (z := Int32.ofNat ((q + m) + 1)) rfl (i_add (q + m) 1) ?_
            refine Pv.putI rfl rfl ?_
            refine Pv.goto rfl ?_
            exact ih4 (0, (fp (fp (fp G 69 14 (((10 * x) + (pkw F0 n (q + m))) - 48)) 69 13 (Int32.ofNat (m + 1))) 69 4 (Int32.ofNat ((q + m) + 1))), (m + 1), ((10 * x) + (pkw F0 n (q + m))) - 48, w) (⟨by omega, (RNX.fp (RNX.fp (RNX.fp hxG (Or.inr (Or.inr (Or.inr (Or.inr rfl))))) (Or.inr (Or.inr (Or.inr (Or.inl rfl))))) (Or.inl rfl)), (fun y my => hGG y my), fun k => (fp_ne (Or.inl (by decide))).trans ((fp_ne (Or.inl (by decide))).trans ((fp_ne (Or.inl (by decide))).trans (hBG _))), (fp_ne (Or.inr (by decide))).trans ((fp_ne (Or.inr (by decide))).trans ((fp_ne (Or.inr (by decide))).trans (g3))), (fp_eq), (fp_ne (Or.inr (by decide))).trans ((fp_ne (Or.inr (by decide))).trans ((fp_ne (Or.inr (by decide))).trans (g12))), (fp_ne (Or.inr (by decide))).trans (fp_eq), (fp_ne (Or.inr (by decide))).trans ((fp_ne (Or.inr (by decide))).trans (fp_eq)), (fp_l).trans ((fp_l).trans ((fp_l).trans (g17))), (congrArg (tk_e tk_r (RBF F0 n) n) (Nat.add_assoc q m 1).symm).trans ((tk_go hq1 hr).symm.trans hrun), all_n hr (fun e => c10 (congrArg b2i e)), fun h => absurd h (by omega), fun h1 h2 => num3 (hx3 (all_1 h1) (by omega)) (all_1 h1) (by omega) (pkw_to hq1) (RB_b F0 n)⟩)
        · skip
          replace c11 := mt (i_le (a := 7) (b := m) (by omega) (by omega)).mpr (of_decide_eq_false c11)
          refine Pv.aload rfl rfl ?_
          refine Pv.aload rfl rfl ?_
          refine Pv.getL (z := w) rfl rfl (g17) ?_
          refine Pv.lit rfl ?_
          refine Pv.lsh (z := w <<< (Int32.toInt64 8 &&& 63)) rfl (rfl) ?_
          refine Pv.aload rfl rfl ?_
          refine Pv.callVI (as := [.ref 69]) (rest := [.long (w <<< (Int32.toInt64 8 &&& 63)), .ref 69]) (z := pkw F0 n (q + m)) rfl rfl rfl (g_peek (F0 := F0) (p := q + m) (n := n) hGG (g4) (g3) (by omega) (by omega) (fun q => hBG _)) ?_
          refine Pv.i2l (z := Int32.toInt64 (pkw F0 n (q + m))) rfl (rfl) ?_
          refine Pv.lbin (z := (w <<< (Int32.toInt64 8 &&& 63)) ||| (Int32.toInt64 (pkw F0 n (q + m)))) rfl (rfl) ?_
          refine Pv.putL rfl rfl ?_
          refine Pv.aload rfl rfl ?_
          refine Pv.getI (z := Int32.ofNat m) rfl rfl ((fpl_i).trans (g13)) ?_
          refine Pv.lit rfl ?_
          refine Pv.icmp rfl (fun c13 => ?_) (fun c13 => ?_)
          · skip
            replace c13 := (i_le (a := 3) (b := m) (by omega) (by omega)).mp (of_decide_eq_true c13)
            refine Pv.aload rfl rfl ?_
            refine Pv.dup rfl ?_
            refine Pv.getI (z := Int32.ofNat m) rfl rfl ((fpl_i).trans (g13)) ?_
            refine Pv.lit rfl ?_
            refine Pv.bin (z := Int32.ofNat (m + 1)) rfl (i_add m 1) ?_
            refine Pv.putI rfl rfl ?_
            refine Pv.aload rfl rfl ?_
            refine Pv.dup rfl ?_
            refine Pv.getI (z := Int32.ofNat (q + m)) rfl rfl ((fp_ne (Or.inr (by decide))).trans ((fpl_i).trans (g4))) ?_
            refine Pv.lit rfl ?_
            refine Pv.bin (z := Int32.ofNat ((q + m) + 1)) rfl (i_add (q + m) 1) ?_
            refine Pv.putI rfl rfl ?_
            refine Pv.goto rfl ?_
            exact ih4 (0, (fp (fp (fpl G 69 17 ((w <<< (Int32.toInt64 8 &&& 63)) ||| (Int32.toInt64 (pkw F0 n (q + m))))) 69 13 (Int32.ofNat (m + 1))) 69 4 (Int32.ofNat ((q + m) + 1))), (m + 1), x, (w <<< (Int32.toInt64 8 &&& 63)) ||| (Int32.toInt64 (pkw F0 n (q + m)))) (⟨by omega, (RNX.fp (RNX.fp (RNX.fl hxG) (Or.inr (Or.inr (Or.inr (Or.inl rfl))))) (Or.inl rfl)), (fun y my => hGG y my), fun k => (fp_ne (Or.inl (by decide))).trans ((fp_ne (Or.inl (by decide))).trans ((fpl_i).trans (hBG _))), (fp_ne (Or.inr (by decide))).trans ((fp_ne (Or.inr (by decide))).trans ((fpl_i).trans (g3))), (fp_eq), (fp_ne (Or.inr (by decide))).trans ((fp_ne (Or.inr (by decide))).trans ((fpl_i).trans (g12))), (fp_ne (Or.inr (by decide))).trans (fp_eq), (fp_ne (Or.inr (by decide))).trans ((fp_ne (Or.inr (by decide))).trans ((fpl_i).trans (g14))), (fp_l).trans ((fp_l).trans (fpl_eq)), (congrArg (tk_e tk_r (RBF F0 n) n) (Nat.add_assoc q m 1).symm).trans ((tk_go hq1 hr).symm.trans hrun), all_n hr (fun e => c10 (congrArg b2i e)), fun h => or8 (RB_b F0 n) (hw7 (by omega)) (by omega) (pkw_to hq1), fun h1 h2 => absurd h2 (by omega)⟩)
          · skip
            replace c13 := mt (i_le (a := 3) (b := m) (by omega) (by omega)).mpr (of_decide_eq_false c13)
            refine Pv.aload rfl rfl ?_
            refine Pv.lit rfl ?_
            refine Pv.aload rfl rfl ?_
            refine Pv.getI (z := x) rfl rfl ((fpl_i).trans (g14)) ?_
            refine Pv.bin (z := 10 * x) rfl (rfl) ?_
            refine Pv.aload rfl rfl ?_
            refine Pv.callVI (as := [.ref 69]) (rest := [.int (10 * x), .ref 69]) (z := pkw F0 n (q + m)) rfl rfl rfl (g_peek (F0 := F0) (p := q + m) (n := n) (hGG.fx (P := fun _ => True) (((FX.rf (P := fun _ => True))).fpl trivial)) ((fpl_i).trans (g4)) ((fpl_i).trans (g3)) (by omega) (by omega) (fun q => (fpl_i).trans (hBG _))) ?_
            refine Pv.bin (z := (10 * x) + (pkw F0 n (q + m))) rfl (rfl) ?_
            refine Pv.lit rfl ?_
            refine Pv.bin (z := ((10 * x) + (pkw F0 n (q + m))) - 48) rfl (rfl) ?_
            refine Pv.putI rfl rfl ?_
            refine Pv.aload rfl rfl ?_
            refine Pv.dup rfl ?_
            refine Pv.getI (z := Int32.ofNat m) rfl rfl ((fp_ne (Or.inr (by decide))).trans ((fpl_i).trans (g13))) ?_
            refine Pv.lit rfl ?_
            refine Pv.bin (z := Int32.ofNat (m + 1)) rfl (i_add m 1) ?_
            refine Pv.putI rfl rfl ?_
            refine Pv.aload rfl rfl ?_
            refine Pv.dup rfl ?_
            refine Pv.getI (z := Int32.ofNat (q + m)) rfl rfl ((fp_ne (Or.inr (by decide))).trans ((fp_ne (Or.inr (by decide))).trans ((fpl_i).trans (g4)))) ?_
            refine Pv.lit rfl ?_
            refine Pv.bin (z := Int32.ofNat ((q + m) + 1)) rfl (i_add (q + m) 1) ?_
            refine Pv.putI rfl rfl ?_
            refine Pv.goto rfl ?_
            exact ih4 (0, (fp (fp (fp (fpl G 69 17 ((w <<< (Int32.toInt64 8 &&& 63)) ||| (Int32.toInt64 (pkw F0 n (q + m))))) 69 14 (((10 * x) + (pkw F0 n (q + m))) - 48)) 69 13 (Int32.ofNat (m + 1))) 69 4 (Int32.ofNat ((q + m) + 1))), (m + 1), ((10 * x) + (pkw F0 n (q + m))) - 48, (w <<< (Int32.toInt64 8 &&& 63)) ||| (Int32.toInt64 (pkw F0 n (q + m)))) (⟨by omega, (RNX.fp (RNX.fp (RNX.fp (RNX.fl hxG) (Or.inr (Or.inr (Or.inr (Or.inr rfl))))) (Or.inr (Or.inr (Or.inr (Or.inl rfl))))) (Or.inl rfl)), (fun y my => hGG y my), fun k => (fp_ne (Or.inl (by decide))).trans ((fp_ne (Or.inl (by decide))).trans ((fp_ne (Or.inl (by decide))).trans ((fpl_i).trans (hBG _)))), (fp_ne (Or.inr (by decide))).trans ((fp_ne (Or.inr (by decide))).trans ((fp_ne (Or.inr (by decide))).trans ((fpl_i).trans (g3)))), (fp_eq), (fp_ne (Or.inr (by decide))).trans ((fp_ne (Or.inr (by decide))).trans ((fp_ne (Or.inr (by decide))).trans ((fpl_i).trans (g12)))), (fp_ne (Or.inr (by decide))).trans (fp_eq), (fp_ne (Or.inr (by decide))).trans ((fp_ne (Or.inr (by decide))).trans (fp_eq)), (fp_l).trans ((fp_l).trans ((fp_l).trans (fpl_eq))), (congrArg (tk_e tk_r (RBF F0 n) n) (Nat.add_assoc q m 1).symm).trans ((tk_go hq1 hr).symm.trans hrun), all_n hr (fun e => c10 (congrArg b2i e)), fun h => or8 (RB_b F0 n) (hw7 (by omega)) (by omega) (pkw_to hq1), fun h1 h2 => num3 (hx3 (all_1 h1) (by omega)) (all_1 h1) (by omega) (pkw_to hq1) (RB_b F0 n)⟩)
      · skip
        replace c10 : decide (b2i (tk_l ((RBF F0 n) (q + m))) = b2i sm) = true := by simpa using c10
        replace c10 := of_decide_eq_true c10
        refine Pv.lit rfl ?_
        refine Pv.goto rfl ?_
        refine Pv.istore (lo' := [some (.ref 69), o, some (.int (b2i sm)), some (.int 1)]) rfl rfl ?_
        refine Pv.aload rfl rfl ?_
        refine Pv.getI (z := Int32.ofNat m) rfl rfl (g13) ?_
        refine Pv.lit rfl ?_
        refine Pv.icmp rfl (fun c14 => ?_) (fun c14 => ?_)
        · skip
          replace c14 := (i_le (a := 7) (b := m) (by omega) (by omega)).mp (of_decide_eq_true c14)
          refine Pv.aload rfl rfl ?_
          refine Pv.getI (z := Int32.ofNat m) rfl rfl (g13) ?_
          refine Pv.lit rfl ?_
          refine Pv.icmp rfl (fun c15 => ?_) (fun c15 => ?_)
          · skip
            replace c15 := (i_le (a := 3) (b := m) (by omega) (by omega)).mp (of_decide_eq_true c15)
            refine Pv.aload rfl rfl ?_
            refine Pv.dup rfl ?_
            refine Pv.getI (z := Int32.ofNat m) rfl rfl (g13) ?_
            refine Pv.lit rfl ?_
            refine Pv.bin (z := Int32.ofNat (m + 1)) rfl (i_add m 1) ?_
            refine Pv.putI rfl rfl ?_
            refine Pv.aload rfl rfl ?_
            refine Pv.dup rfl ?_
            refine Pv.getI (z := Int32.ofNat (q + m)) rfl rfl ((fp_ne (Or.inr (by decide))).trans (g4)) ?_
            refine Pv.lit rfl ?_
            refine Pv.bin (z := Int32.ofNat ((q + m) + 1)) rfl (i_add (q + m) 1) ?_
            refine Pv.putI rfl rfl ?_
            refine Pv.goto rfl ?_
            exact ih4 (1, (fp (fp G 69 13 (Int32.ofNat (m + 1))) 69 4 (Int32.ofNat ((q + m) + 1))), (m + 1), x, w) (⟨by omega, (RNX.fp (RNX.fp hxG (Or.inr (Or.inr (Or.inr (Or.inl rfl))))) (Or.inl rfl)), (fun y my => hGG y my), fun k => (fp_ne (Or.inl (by decide))).trans ((fp_ne (Or.inl (by decide))).trans (hBG _)), (fp_ne (Or.inr (by decide))).trans ((fp_ne (Or.inr (by decide))).trans (g3)), (fp_eq), (fp_ne (Or.inr (by decide))).trans ((fp_ne (Or.inr (by decide))).trans (g12)), (fp_ne (Or.inr (by decide))).trans (fp_eq), (fp_ne (Or.inr (by decide))).trans ((fp_ne (Or.inr (by decide))).trans (g14)), (fp_l).trans ((fp_l).trans (g17)), (congrArg (tk_e tk_r (RBF F0 n) n) (Nat.add_assoc q m 1).symm).trans ((tk_go hq1 hr).symm.trans hrun), all_y (fun e => c6 (ha.trans e)) hr (b2i_inj.mp c10), fun h => absurd h (by omega), fun h1 h2 => absurd h2 (by omega)⟩)
          · skip
            replace c15 := mt (i_le (a := 3) (b := m) (by omega) (by omega)).mpr (of_decide_eq_false c15)
            refine Pv.aload rfl rfl ?_
            refine Pv.lit rfl ?_
            refine Pv.aload rfl rfl ?_
            refine Pv.getI (z := x) rfl rfl (g14) ?_
            refine Pv.bin (z := 10 * x) rfl (rfl) ?_
            refine Pv.aload rfl rfl ?_
            refine Pv.callVI (as := [.ref 69]) (rest := [.int (10 * x), .ref 69]) (z := pkw F0 n (q + m)) rfl rfl rfl (g_peek (F0 := F0) (p := q + m) (n := n) hGG (g4) (g3) (by omega) (by omega) (fun q => hBG _)) ?_
            refine Pv.bin (z := (10 * x) + (pkw F0 n (q + m))) rfl (rfl) ?_
            refine Pv.lit rfl ?_
            refine Pv.bin (z := ((10 * x) + (pkw F0 n (q + m))) - 48) rfl (rfl) ?_
            refine Pv.putI rfl rfl ?_
            refine Pv.aload rfl rfl ?_
            refine Pv.dup rfl ?_
            refine Pv.getI (z := Int32.ofNat m) rfl rfl ((fp_ne (Or.inr (by decide))).trans (g13)) ?_
            refine Pv.lit rfl ?_
            refine Pv.bin (z := Int32.ofNat (m + 1)) rfl (i_add m 1) ?_
            refine Pv.putI rfl rfl ?_
            refine Pv.aload rfl rfl ?_
            refine Pv.dup rfl ?_
            refine Pv.getI (z := Int32.ofNat (q + m)) rfl rfl ((fp_ne (Or.inr (by decide))).trans ((fp_ne (Or.inr (by decide))).trans (g4))) ?_
            refine Pv.lit rfl ?_
            refine Pv.bin (z := Int32.ofNat ((q + m) + 1)) rfl (i_add (q + m) 1) ?_
            refine Pv.putI rfl rfl ?_
            refine Pv.goto rfl ?_
            exact ih4 (1, (fp (fp (fp G 69 14 (((10 * x) + (pkw F0 n (q + m))) - 48)) 69 13 (Int32.ofNat (m + 1))) 69 4 (Int32.ofNat ((q + m) + 1))), (m + 1), ((10 * x) + (pkw F0 n (q + m))) - 48, w) (⟨by omega, (RNX.fp (RNX.fp (RNX.fp hxG (Or.inr (Or.inr (Or.inr (Or.inr rfl))))) (Or.inr (Or.inr (Or.inr (Or.inl rfl))))) (Or.inl rfl)), (fun y my => hGG y my), fun k => (fp_ne (Or.inl (by decide))).trans ((fp_ne (Or.inl (by decide))).trans ((fp_ne (Or.inl (by decide))).trans (hBG _))), (fp_ne (Or.inr (by decide))).trans ((fp_ne (Or.inr (by decide))).trans ((fp_ne (Or.inr (by decide))).trans (g3))), (fp_eq), (fp_ne (Or.inr (by decide))).trans ((fp_ne (Or.inr (by decide))).trans ((fp_ne (Or.inr (by decide))).trans (g12))), (fp_ne (Or.inr (by decide))).trans (fp_eq), (fp_ne (Or.inr (by decide))).trans ((fp_ne (Or.inr (by decide))).trans (fp_eq)), (fp_l).trans ((fp_l).trans ((fp_l).trans (g17))), (congrArg (tk_e tk_r (RBF F0 n) n) (Nat.add_assoc q m 1).symm).trans ((tk_go hq1 hr).symm.trans hrun), all_y (fun e => c6 (ha.trans e)) hr (b2i_inj.mp c10), fun h => absurd h (by omega), fun h1 h2 => num3 (hx3 (all_1 h1) (by omega)) (all_1 h1) (by omega) (pkw_to hq1) (RB_b F0 n)⟩)
        · skip
          replace c14 := mt (i_le (a := 7) (b := m) (by omega) (by omega)).mpr (of_decide_eq_false c14)
          refine Pv.aload rfl rfl ?_
          refine Pv.aload rfl rfl ?_
          refine Pv.getL (z := w) rfl rfl (g17) ?_
          refine Pv.lit rfl ?_
          refine Pv.lsh (z := w <<< (Int32.toInt64 8 &&& 63)) rfl (rfl) ?_
          refine Pv.aload rfl rfl ?_
          refine Pv.callVI (as := [.ref 69]) (rest := [.long (w <<< (Int32.toInt64 8 &&& 63)), .ref 69]) (z := pkw F0 n (q + m)) rfl rfl rfl (g_peek (F0 := F0) (p := q + m) (n := n) hGG (g4) (g3) (by omega) (by omega) (fun q => hBG _)) ?_
          refine Pv.i2l (z := Int32.toInt64 (pkw F0 n (q + m))) rfl (rfl) ?_
          refine Pv.lbin (z := (w <<< (Int32.toInt64 8 &&& 63)) ||| (Int32.toInt64 (pkw F0 n (q + m)))) rfl (rfl) ?_
          refine Pv.putL rfl rfl ?_
          refine Pv.aload rfl rfl ?_
          refine Pv.getI (z := Int32.ofNat m) rfl rfl ((fpl_i).trans (g13)) ?_
          refine Pv.lit rfl ?_
          refine Pv.icmp rfl (fun c16 => ?_) (fun c16 => ?_)
          · skip
            replace c16 := (i_le (a := 3) (b := m) (by omega) (by omega)).mp (of_decide_eq_true c16)
            refine Pv.aload rfl rfl ?_
            refine Pv.dup rfl ?_
            refine Pv.getI (z := Int32.ofNat m) rfl rfl ((fpl_i).trans (g13)) ?_
            refine Pv.lit rfl ?_
            refine Pv.bin (z := Int32.ofNat (m + 1)) rfl (i_add m 1) ?_
            refine Pv.putI rfl rfl ?_
            refine Pv.aload rfl rfl ?_
            refine Pv.dup rfl ?_
            refine Pv.getI (z := Int32.ofNat (q + m)) rfl rfl ((fp_ne (Or.inr (by decide))).trans ((fpl_i).trans (g4))) ?_
            refine Pv.lit rfl ?_
            refine Pv.bin (z := Int32.ofNat ((q + m) + 1)) rfl (i_add (q + m) 1) ?_
            refine Pv.putI rfl rfl ?_
            refine Pv.goto rfl ?_
            exact ih4 (1, (fp (fp (fpl G 69 17 ((w <<< (Int32.toInt64 8 &&& 63)) ||| (Int32.toInt64 (pkw F0 n (q + m))))) 69 13 (Int32.ofNat (m + 1))) 69 4 (Int32.ofNat ((q + m) + 1))), (m + 1), x, (w <<< (Int32.toInt64 8 &&& 63)) ||| (Int32.toInt64 (pkw F0 n (q + m)))) (⟨by omega, (RNX.fp (RNX.fp (RNX.fl hxG) (Or.inr (Or.inr (Or.inr (Or.inl rfl))))) (Or.inl rfl)), (fun y my => hGG y my), fun k => (fp_ne (Or.inl (by decide))).trans ((fp_ne (Or.inl (by decide))).trans ((fpl_i).trans (hBG _))), (fp_ne (Or.inr (by decide))).trans ((fp_ne (Or.inr (by decide))).trans ((fpl_i).trans (g3))), (fp_eq), (fp_ne (Or.inr (by decide))).trans ((fp_ne (Or.inr (by decide))).trans ((fpl_i).trans (g12))), (fp_ne (Or.inr (by decide))).trans (fp_eq), (fp_ne (Or.inr (by decide))).trans ((fp_ne (Or.inr (by decide))).trans ((fpl_i).trans (g14))), (fp_l).trans ((fp_l).trans (fpl_eq)), (congrArg (tk_e tk_r (RBF F0 n) n) (Nat.add_assoc q m 1).symm).trans ((tk_go hq1 hr).symm.trans hrun), all_y (fun e => c6 (ha.trans e)) hr (b2i_inj.mp c10), fun h => or8 (RB_b F0 n) (hw7 (by omega)) (by omega) (pkw_to hq1), fun h1 h2 => absurd h2 (by omega)⟩)
          · skip
            replace c16 := mt (i_le (a := 3) (b := m) (by omega) (by omega)).mpr (of_decide_eq_false c16)
            refine Pv.aload rfl rfl ?_
            refine Pv.lit rfl ?_
            refine Pv.aload rfl rfl ?_
            refine Pv.getI (z := x) rfl rfl ((fpl_i).trans (g14)) ?_
            refine Pv.bin (z := 10 * x) rfl (rfl) ?_
            refine Pv.aload rfl rfl ?_
            refine Pv.callVI (as := [.ref 69]) (rest := [.int (10 * x), .ref 69]) (z := pkw F0 n (q + m)) rfl rfl rfl (g_peek (F0 := F0) (p := q + m) (n := n) (hGG.fx (P := fun _ => True) (((FX.rf (P := fun _ => True))).fpl trivial)) ((fpl_i).trans (g4)) ((fpl_i).trans (g3)) (by omega) (by omega) (fun q => (fpl_i).trans (hBG _))) ?_
            refine Pv.bin (z := (10 * x) + (pkw F0 n (q + m))) rfl (rfl) ?_
            refine Pv.lit rfl ?_
            refine Pv.bin (z := ((10 * x) + (pkw F0 n (q + m))) - 48) rfl (rfl) ?_
            refine Pv.putI rfl rfl ?_
            refine Pv.aload rfl rfl ?_
            refine Pv.dup rfl ?_
            refine Pv.getI (z := Int32.ofNat m) rfl rfl ((fp_ne (Or.inr (by decide))).trans ((fpl_i).trans (g13))) ?_
            refine Pv.lit rfl ?_
            refine Pv.bin (z := Int32.ofNat (m + 1)) rfl (i_add m 1) ?_
            refine Pv.putI rfl rfl ?_
            refine Pv.aload rfl rfl ?_
            refine Pv.dup rfl ?_
            refine Pv.getI (z := Int32.ofNat (q + m)) rfl rfl ((fp_ne (Or.inr (by decide))).trans ((fp_ne (Or.inr (by decide))).trans ((fpl_i).trans (g4)))) ?_
            refine Pv.lit rfl ?_
            refine Pv.bin (z := Int32.ofNat ((q + m) + 1)) rfl (i_add (q + m) 1) ?_
            refine Pv.putI rfl rfl ?_
            refine Pv.goto rfl ?_
            exact ih4 (1, (fp (fp (fp (fpl G 69 17 ((w <<< (Int32.toInt64 8 &&& 63)) ||| (Int32.toInt64 (pkw F0 n (q + m))))) 69 14 (((10 * x) + (pkw F0 n (q + m))) - 48)) 69 13 (Int32.ofNat (m + 1))) 69 4 (Int32.ofNat ((q + m) + 1))), (m + 1), ((10 * x) + (pkw F0 n (q + m))) - 48, (w <<< (Int32.toInt64 8 &&& 63)) ||| (Int32.toInt64 (pkw F0 n (q + m)))) (⟨by omega, (RNX.fp (RNX.fp (RNX.fp (RNX.fl hxG) (Or.inr (Or.inr (Or.inr (Or.inr rfl))))) (Or.inr (Or.inr (Or.inr (Or.inl rfl))))) (Or.inl rfl)), (fun y my => hGG y my), fun k => (fp_ne (Or.inl (by decide))).trans ((fp_ne (Or.inl (by decide))).trans ((fp_ne (Or.inl (by decide))).trans ((fpl_i).trans (hBG _)))), (fp_ne (Or.inr (by decide))).trans ((fp_ne (Or.inr (by decide))).trans ((fp_ne (Or.inr (by decide))).trans ((fpl_i).trans (g3)))), (fp_eq), (fp_ne (Or.inr (by decide))).trans ((fp_ne (Or.inr (by decide))).trans ((fp_ne (Or.inr (by decide))).trans ((fpl_i).trans (g12)))), (fp_ne (Or.inr (by decide))).trans (fp_eq), (fp_ne (Or.inr (by decide))).trans ((fp_ne (Or.inr (by decide))).trans (fp_eq)), (fp_l).trans ((fp_l).trans ((fp_l).trans (fpl_eq))), (congrArg (tk_e tk_r (RBF F0 n) n) (Nat.add_assoc q m 1).symm).trans ((tk_go hq1 hr).symm.trans hrun), all_y (fun e => c6 (ha.trans e)) hr (b2i_inj.mp c10), fun h => or8 (RB_b F0 n) (hw7 (by omega)) (by omega) (pkw_to hq1), fun h1 h2 => num3 (hx3 (all_1 h1) (by omega)) (all_1 h1) (by omega) (pkw_to hq1) (RB_b F0 n)⟩)
  · skip
    replace c5 : decide (b2i (smL (pkw F0 n (q + m))) = 0) = true := by simpa using c5
    replace c5 := of_decide_eq_true c5
    replace c5 := b2z.mp c5
    refine Pv.aload rfl rfl ?_
    refine Pv.callVI (as := [.ref 69]) (rest := []) (z := pkw F0 n (q + m)) rfl rfl rfl (g_peek (F0 := F0) (p := q + m) (n := n) hGG (g4) (g3) (by omega) (by omega) (fun q => hBG _)) ?_
    refine Pv.callI (as := [.int (pkw F0 n (q + m))]) (rest := []) (z := b2i (dgL (pkw F0 n (q + m)))) rfl rfl rfl (g_isDigit (pkw F0 n (q + m))) ?_
    refine Pv.if0 rfl (fun c17 => ?_) (fun c17 => ?_)
    · skip
      replace c17 := of_decide_eq_true c17
      replace c17 := b2z.mp c17
      have hm1 : 1 ≤ m := by
        rcases Nat.eq_zero_or_pos m with e | e
        · have z := rn_stop c5 c17
          rw [e, Nat.add_zero, hfr] at z
          rcases z with z | z
          · omega
          · cases z
        · exact e
      have EM : tk_e tk_r (RBF F0 n) n q - q = m := by rw [← hrun, tk_stop (rn_stop c5 c17)]; omega
      rw [ha]
      refine (g_nx298 (B := (RBF F0 n)) hGG hxG g4 g12 g13 g14 g17 hm1 (by omega) hsm rfl hw7 hx3 _ _).imp (fun r F' h => ?_)
      rw [hQ, EM]
      exact h
    · skip
      replace c17 := of_decide_eq_false c17
      replace c17 := b2n.mp c17
      have hq2 := dg_t c17
      have hr : tk_r ((RBF F0 n) (q + m)) = true := tk_r_d hq2.2
      have hq1 : q + m < n := hq2.1
      refine Pv.iload rfl rfl ?_
      refine Pv.if0 rfl (fun c18 => ?_) (fun c18 => ?_)
      · skip
        replace c18 := of_decide_eq_true c18
        refine Pv.lit rfl ?_
        refine Pv.istore (lo' := [some (.ref 69), o, some (.int (b2i sm)), some (.int 0)]) rfl rfl ?_
        refine Pv.aload rfl rfl ?_
        refine Pv.getI (z := Int32.ofNat m) rfl rfl (g13) ?_
        refine Pv.lit rfl ?_
        refine Pv.icmp rfl (fun c19 => ?_) (fun c19 => ?_)
        · skip
          replace c19 := (i_le (a := 7) (b := m) (by omega) (by omega)).mp (of_decide_eq_true c19)
          refine Pv.aload rfl rfl ?_
          refine Pv.getI (z := Int32.ofNat m) rfl rfl (g13) ?_
          refine Pv.lit rfl ?_
          refine Pv.icmp rfl (fun c20 => ?_) (fun c20 => ?_)
          · skip
            replace c20 := (i_le (a := 3) (b := m) (by omega) (by omega)).mp (of_decide_eq_true c20)
            refine Pv.aload rfl rfl ?_
            refine Pv.dup rfl ?_
            refine Pv.getI (z := Int32.ofNat m) rfl rfl (g13) ?_
            refine Pv.lit rfl ?_
            refine Pv.bin (z := Int32.ofNat (m + 1)) rfl (i_add m 1) ?_
            refine Pv.putI rfl rfl ?_
            refine Pv.aload rfl rfl ?_
            refine Pv.dup rfl ?_
            refine Pv.getI (z := Int32.ofNat (q + m)) rfl rfl ((fp_ne (Or.inr (by decide))).trans (g4)) ?_
            refine Pv.lit rfl ?_
            refine Pv.bin (z := Int32.ofNat ((q + m) + 1)) rfl (i_add (q + m) 1) ?_
            refine Pv.putI rfl rfl ?_
            refine Pv.goto rfl ?_
            exact ih4 (0, (fp (fp G 69 13 (Int32.ofNat (m + 1))) 69 4 (Int32.ofNat ((q + m) + 1))), (m + 1), x, w) (⟨by omega, (RNX.fp (RNX.fp hxG (Or.inr (Or.inr (Or.inr (Or.inl rfl))))) (Or.inl rfl)), (fun y my => hGG y my), fun k => (fp_ne (Or.inl (by decide))).trans ((fp_ne (Or.inl (by decide))).trans (hBG _)), (fp_ne (Or.inr (by decide))).trans ((fp_ne (Or.inr (by decide))).trans (g3)), (fp_eq), (fp_ne (Or.inr (by decide))).trans ((fp_ne (Or.inr (by decide))).trans (g12)), (fp_ne (Or.inr (by decide))).trans (fp_eq), (fp_ne (Or.inr (by decide))).trans ((fp_ne (Or.inr (by decide))).trans (g14)), (fp_l).trans ((fp_l).trans (g17)), (congrArg (tk_e tk_r (RBF F0 n) n) (Nat.add_assoc q m 1).symm).trans ((tk_go hq1 hr).symm.trans hrun), all_z (ha.symm.trans c18), fun h => absurd h (by omega), fun h1 h2 => absurd h2 (by omega)⟩)
          · skip
            replace c20 := mt (i_le (a := 3) (b := m) (by omega) (by omega)).mpr (of_decide_eq_false c20)
            refine Pv.aload rfl rfl ?_
            refine Pv.lit rfl ?_
            refine Pv.aload rfl rfl ?_
            refine Pv.getI (z := x) rfl rfl (g14) ?_
            refine Pv.bin (z := 10 * x) rfl (rfl) ?_
            refine Pv.aload rfl rfl ?_
            refine Pv.callVI (as := [.ref 69]) (rest := [.int (10 * x), .ref 69]) (z := pkw F0 n (q + m)) rfl rfl rfl (g_peek (F0 := F0) (p := q + m) (n := n) hGG (g4) (g3) (by omega) (by omega) (fun q => hBG _)) ?_
            refine Pv.bin (z := (10 * x) + (pkw F0 n (q + m))) rfl (rfl) ?_
            refine Pv.lit rfl ?_
            refine Pv.bin (z := ((10 * x) + (pkw F0 n (q + m))) - 48) rfl (rfl) ?_
            refine Pv.putI rfl rfl ?_
            refine Pv.aload rfl rfl ?_
            refine Pv.dup rfl ?_
            refine Pv.getI (z := Int32.ofNat m) rfl rfl ((fp_ne (Or.inr (by decide))).trans (g13)) ?_
            refine Pv.lit rfl ?_
            refine Pv.bin (z := Int32.ofNat (m + 1)) rfl (i_add m 1) ?_
            refine Pv.putI rfl rfl ?_
            refine Pv.aload rfl rfl ?_
            refine Pv.dup rfl ?_
            refine Pv.getI (z := Int32.ofNat (q + m)) rfl rfl ((fp_ne (Or.inr (by decide))).trans ((fp_ne (Or.inr (by decide))).trans (g4))) ?_
            refine Pv.lit rfl ?_
            refine Pv.bin (z := Int32.ofNat ((q + m) + 1)) rfl (i_add (q + m) 1) ?_
            refine Pv.putI rfl rfl ?_
            refine Pv.goto rfl ?_
            exact ih4 (0, (fp (fp (fp G 69 14 (((10 * x) + (pkw F0 n (q + m))) - 48)) 69 13 (Int32.ofNat (m + 1))) 69 4 (Int32.ofNat ((q + m) + 1))), (m + 1), ((10 * x) + (pkw F0 n (q + m))) - 48, w) (⟨by omega, (RNX.fp (RNX.fp (RNX.fp hxG (Or.inr (Or.inr (Or.inr (Or.inr rfl))))) (Or.inr (Or.inr (Or.inr (Or.inl rfl))))) (Or.inl rfl)), (fun y my => hGG y my), fun k => (fp_ne (Or.inl (by decide))).trans ((fp_ne (Or.inl (by decide))).trans ((fp_ne (Or.inl (by decide))).trans (hBG _))), (fp_ne (Or.inr (by decide))).trans ((fp_ne (Or.inr (by decide))).trans ((fp_ne (Or.inr (by decide))).trans (g3))), (fp_eq), (fp_ne (Or.inr (by decide))).trans ((fp_ne (Or.inr (by decide))).trans ((fp_ne (Or.inr (by decide))).trans (g12))), (fp_ne (Or.inr (by decide))).trans (fp_eq), (fp_ne (Or.inr (by decide))).trans ((fp_ne (Or.inr (by decide))).trans (fp_eq)), (fp_l).trans ((fp_l).trans ((fp_l).trans (g17))), (congrArg (tk_e tk_r (RBF F0 n) n) (Nat.add_assoc q m 1).symm).trans ((tk_go hq1 hr).symm.trans hrun), all_z (ha.symm.trans c18), fun h => absurd h (by omega), fun h1 h2 => num3 (hx3 (all_1 h1) (by omega)) (all_1 h1) (by omega) (pkw_to hq1) (RB_b F0 n)⟩)
        · skip
          replace c19 := mt (i_le (a := 7) (b := m) (by omega) (by omega)).mpr (of_decide_eq_false c19)
          refine Pv.aload rfl rfl ?_
          refine Pv.aload rfl rfl ?_
          refine Pv.getL (z := w) rfl rfl (g17) ?_
          refine Pv.lit rfl ?_
          refine Pv.lsh (z := w <<< (Int32.toInt64 8 &&& 63)) rfl (rfl) ?_
          refine Pv.aload rfl rfl ?_
          refine Pv.callVI (as := [.ref 69]) (rest := [.long (w <<< (Int32.toInt64 8 &&& 63)), .ref 69]) (z := pkw F0 n (q + m)) rfl rfl rfl (g_peek (F0 := F0) (p := q + m) (n := n) hGG (g4) (g3) (by omega) (by omega) (fun q => hBG _)) ?_
          refine Pv.i2l (z := Int32.toInt64 (pkw F0 n (q + m))) rfl (rfl) ?_
          refine Pv.lbin (z := (w <<< (Int32.toInt64 8 &&& 63)) ||| (Int32.toInt64 (pkw F0 n (q + m)))) rfl (rfl) ?_
          refine Pv.putL rfl rfl ?_
          refine Pv.aload rfl rfl ?_
          refine Pv.getI (z := Int32.ofNat m) rfl rfl ((fpl_i).trans (g13)) ?_
          refine Pv.lit rfl ?_
          refine Pv.icmp rfl (fun c21 => ?_) (fun c21 => ?_)
          · skip
            replace c21 := (i_le (a := 3) (b := m) (by omega) (by omega)).mp (of_decide_eq_true c21)
            refine Pv.aload rfl rfl ?_
            refine Pv.dup rfl ?_
            refine Pv.getI (z := Int32.ofNat m) rfl rfl ((fpl_i).trans (g13)) ?_
            refine Pv.lit rfl ?_
            refine Pv.bin (z := Int32.ofNat (m + 1)) rfl (i_add m 1) ?_
            refine Pv.putI rfl rfl ?_
            refine Pv.aload rfl rfl ?_
            refine Pv.dup rfl ?_
            refine Pv.getI (z := Int32.ofNat (q + m)) rfl rfl ((fp_ne (Or.inr (by decide))).trans ((fpl_i).trans (g4))) ?_
            refine Pv.lit rfl ?_
            refine Pv.bin (z := Int32.ofNat ((q + m) + 1)) rfl (i_add (q + m) 1) ?_
            refine Pv.putI rfl rfl ?_
            refine Pv.goto rfl ?_
            exact ih4 (0, (fp (fp (fpl G 69 17 ((w <<< (Int32.toInt64 8 &&& 63)) ||| (Int32.toInt64 (pkw F0 n (q + m))))) 69 13 (Int32.ofNat (m + 1))) 69 4 (Int32.ofNat ((q + m) + 1))), (m + 1), x, (w <<< (Int32.toInt64 8 &&& 63)) ||| (Int32.toInt64 (pkw F0 n (q + m)))) (⟨by omega, (RNX.fp (RNX.fp (RNX.fl hxG) (Or.inr (Or.inr (Or.inr (Or.inl rfl))))) (Or.inl rfl)), (fun y my => hGG y my), fun k => (fp_ne (Or.inl (by decide))).trans ((fp_ne (Or.inl (by decide))).trans ((fpl_i).trans (hBG _))), (fp_ne (Or.inr (by decide))).trans ((fp_ne (Or.inr (by decide))).trans ((fpl_i).trans (g3))), (fp_eq), (fp_ne (Or.inr (by decide))).trans ((fp_ne (Or.inr (by decide))).trans ((fpl_i).trans (g12))), (fp_ne (Or.inr (by decide))).trans (fp_eq), (fp_ne (Or.inr (by decide))).trans ((fp_ne (Or.inr (by decide))).trans ((fpl_i).trans (g14))), (fp_l).trans ((fp_l).trans (fpl_eq)), (congrArg (tk_e tk_r (RBF F0 n) n) (Nat.add_assoc q m 1).symm).trans ((tk_go hq1 hr).symm.trans hrun), all_z (ha.symm.trans c18), fun h => or8 (RB_b F0 n) (hw7 (by omega)) (by omega) (pkw_to hq1), fun h1 h2 => absurd h2 (by omega)⟩)
          · skip
            replace c21 := mt (i_le (a := 3) (b := m) (by omega) (by omega)).mpr (of_decide_eq_false c21)
            refine Pv.aload rfl rfl ?_
            refine Pv.lit rfl ?_
            refine Pv.aload rfl rfl ?_
            refine Pv.getI (z := x) rfl rfl ((fpl_i).trans (g14)) ?_
            refine Pv.bin (z := 10 * x) rfl (rfl) ?_
            refine Pv.aload rfl rfl ?_
            refine Pv.callVI (as := [.ref 69]) (rest := [.int (10 * x), .ref 69]) (z := pkw F0 n (q + m)) rfl rfl rfl (g_peek (F0 := F0) (p := q + m) (n := n) (hGG.fx (P := fun _ => True) (((FX.rf (P := fun _ => True))).fpl trivial)) ((fpl_i).trans (g4)) ((fpl_i).trans (g3)) (by omega) (by omega) (fun q => (fpl_i).trans (hBG _))) ?_
            refine Pv.bin (z := (10 * x) + (pkw F0 n (q + m))) rfl (rfl) ?_
            refine Pv.lit rfl ?_
            refine Pv.bin (z := ((10 * x) + (pkw F0 n (q + m))) - 48) rfl (rfl) ?_
            refine Pv.putI rfl rfl ?_
            refine Pv.aload rfl rfl ?_
            refine Pv.dup rfl ?_
            refine Pv.getI (z := Int32.ofNat m) rfl rfl ((fp_ne (Or.inr (by decide))).trans ((fpl_i).trans (g13))) ?_
            refine Pv.lit rfl ?_
            refine Pv.bin (z := Int32.ofNat (m + 1)) rfl (i_add m 1) ?_
            refine Pv.putI rfl rfl ?_
            refine Pv.aload rfl rfl ?_
            refine Pv.dup rfl ?_
            refine Pv.getI (z := Int32.ofNat (q + m)) rfl rfl ((fp_ne (Or.inr (by decide))).trans ((fp_ne (Or.inr (by decide))).trans ((fpl_i).trans (g4)))) ?_
            refine Pv.lit rfl ?_
            refine Pv.bin (z := Int32.ofNat ((q + m) + 1)) rfl (i_add (q + m) 1) ?_
            refine Pv.putI rfl rfl ?_
            refine Pv.goto rfl ?_
            exact ih4 (0, (fp (fp (fp (fpl G 69 17 ((w <<< (Int32.toInt64 8 &&& 63)) ||| (Int32.toInt64 (pkw F0 n (q + m))))) 69 14 (((10 * x) + (pkw F0 n (q + m))) - 48)) 69 13 (Int32.ofNat (m + 1))) 69 4 (Int32.ofNat ((q + m) + 1))), (m + 1), ((10 * x) + (pkw F0 n (q + m))) - 48, (w <<< (Int32.toInt64 8 &&& 63)) ||| (Int32.toInt64 (pkw F0 n (q + m)))) (⟨by omega, (RNX.fp (RNX.fp (RNX.fp (RNX.fl hxG) (Or.inr (Or.inr (Or.inr (Or.inr rfl))))) (Or.inr (Or.inr (Or.inr (Or.inl rfl))))) (Or.inl rfl)), (fun y my => hGG y my), fun k => (fp_ne (Or.inl (by decide))).trans ((fp_ne (Or.inl (by decide))).trans ((fp_ne (Or.inl (by decide))).trans ((fpl_i).trans (hBG _)))), (fp_ne (Or.inr (by decide))).trans ((fp_ne (Or.inr (by decide))).trans ((fp_ne (Or.inr (by decide))).trans ((fpl_i).trans (g3)))), (fp_eq), (fp_ne (Or.inr (by decide))).trans ((fp_ne (Or.inr (by decide))).trans ((fp_ne (Or.inr (by decide))).trans ((fpl_i).trans (g12)))), (fp_ne (Or.inr (by decide))).trans (fp_eq), (fp_ne (Or.inr (by decide))).trans ((fp_ne (Or.inr (by decide))).trans (fp_eq)), (fp_l).trans ((fp_l).trans ((fp_l).trans (fpl_eq))), (congrArg (tk_e tk_r (RBF F0 n) n) (Nat.add_assoc q m 1).symm).trans ((tk_go hq1 hr).symm.trans hrun), all_z (ha.symm.trans c18), fun h => or8 (RB_b F0 n) (hw7 (by omega)) (by omega) (pkw_to hq1), fun h1 h2 => num3 (hx3 (all_1 h1) (by omega)) (all_1 h1) (by omega) (pkw_to hq1) (RB_b F0 n)⟩)
      · skip
        replace c18 := of_decide_eq_false c18
        refine Pv.aload rfl rfl ?_
        refine Pv.callVI (as := [.ref 69]) (rest := []) (z := pkw F0 n (q + m)) rfl rfl rfl (g_peek (F0 := F0) (p := q + m) (n := n) hGG (g4) (g3) (by omega) (by omega) (fun q => hBG _)) ?_
        refine Pv.callI (as := [.int (pkw F0 n (q + m))]) (rest := []) (z := b2i (smL (pkw F0 n (q + m)))) rfl rfl rfl (g_isSmall (pkw F0 n (q + m))) ?_
        rw [show (b2i (smL (pkw F0 n (q + m)))) = b2i (tk_l ((RBF F0 n) (q + m))) from congrArg b2i (sm_eq hq1)]
        refine Pv.iload rfl rfl ?_
        refine Pv.icmp rfl (fun c22 => ?_) (fun c22 => ?_)
        · skip
          replace c22 : decide (b2i (tk_l ((RBF F0 n) (q + m))) = b2i sm) = false := by simpa using c22
          replace c22 := of_decide_eq_false c22
          refine Pv.lit rfl ?_
          refine Pv.istore (lo' := [some (.ref 69), o, some (.int (b2i sm)), some (.int 0)]) rfl rfl ?_
          refine Pv.aload rfl rfl ?_
          refine Pv.getI (z := Int32.ofNat m) rfl rfl (g13) ?_
          refine Pv.lit rfl ?_
          refine Pv.icmp rfl (fun c23 => ?_) (fun c23 => ?_)
          · skip
            replace c23 := (i_le (a := 7) (b := m) (by omega) (by omega)).mp (of_decide_eq_true c23)
            refine Pv.aload rfl rfl ?_
            refine Pv.getI (z := Int32.ofNat m) rfl rfl (g13) ?_
            refine Pv.lit rfl ?_
            refine Pv.icmp rfl (fun c24 => ?_) (fun c24 => ?_)
            · skip
              replace c24 := (i_le (a := 3) (b := m) (by omega) (by omega)).mp (of_decide_eq_true c24)
              refine Pv.aload rfl rfl ?_
              refine Pv.dup rfl ?_
              refine Pv.getI (z := Int32.ofNat m) rfl rfl (g13) ?_
              refine Pv.lit rfl ?_
              refine Pv.bin (z := Int32.ofNat (m + 1)) rfl (i_add m 1) ?_
              refine Pv.putI rfl rfl ?_
              refine Pv.aload rfl rfl ?_
              refine Pv.dup rfl ?_
              refine Pv.getI (z := Int32.ofNat (q + m)) rfl rfl ((fp_ne (Or.inr (by decide))).trans (g4)) ?_
              refine Pv.lit rfl ?_
              refine Pv.bin (z := Int32.ofNat ((q + m) + 1)) rfl (i_add (q + m) 1) ?_
              refine Pv.putI rfl rfl ?_
              refine Pv.goto rfl ?_
              exact ih4 (0, (fp (fp G 69 13 (Int32.ofNat (m + 1))) 69 4 (Int32.ofNat ((q + m) + 1))), (m + 1), x, w) (⟨by omega, (RNX.fp (RNX.fp hxG (Or.inr (Or.inr (Or.inr (Or.inl rfl))))) (Or.inl rfl)), (fun y my => hGG y my), fun k => (fp_ne (Or.inl (by decide))).trans ((fp_ne (Or.inl (by decide))).trans (hBG _)), (fp_ne (Or.inr (by decide))).trans ((fp_ne (Or.inr (by decide))).trans (g3)), (fp_eq), (fp_ne (Or.inr (by decide))).trans ((fp_ne (Or.inr (by decide))).trans (g12)), (fp_ne (Or.inr (by decide))).trans (fp_eq), (fp_ne (Or.inr (by decide))).trans ((fp_ne (Or.inr (by decide))).trans (g14)), (fp_l).trans ((fp_l).trans (g17)), (congrArg (tk_e tk_r (RBF F0 n) n) (Nat.add_assoc q m 1).symm).trans ((tk_go hq1 hr).symm.trans hrun), all_n hr (fun e => c22 (congrArg b2i e)), fun h => absurd h (by omega), fun h1 h2 => absurd h2 (by omega)⟩)
            · skip
              replace c24 := mt (i_le (a := 3) (b := m) (by omega) (by omega)).mpr (of_decide_eq_false c24)
              refine Pv.aload rfl rfl ?_
              refine Pv.lit rfl ?_
              refine Pv.aload rfl rfl ?_
              refine Pv.getI (z := x) rfl rfl (g14) ?_
              refine Pv.bin (z := 10 * x) rfl (rfl) ?_
              refine Pv.aload rfl rfl ?_
              refine Pv.callVI (as := [.ref 69]) (rest := [.int (10 * x), .ref 69]) (z := pkw F0 n (q + m)) rfl rfl rfl (g_peek (F0 := F0) (p := q + m) (n := n) hGG (g4) (g3) (by omega) (by omega) (fun q => hBG _)) ?_
              refine Pv.bin (z := (10 * x) + (pkw F0 n (q + m))) rfl (rfl) ?_
              refine Pv.lit rfl ?_
              refine Pv.bin (z := ((10 * x) + (pkw F0 n (q + m))) - 48) rfl (rfl) ?_
              refine Pv.putI rfl rfl ?_
              refine Pv.aload rfl rfl ?_
              refine Pv.dup rfl ?_
              refine Pv.getI (z := Int32.ofNat m) rfl rfl ((fp_ne (Or.inr (by decide))).trans (g13)) ?_
              refine Pv.lit rfl ?_
              refine Pv.bin (z := Int32.ofNat (m + 1)) rfl (i_add m 1) ?_
              refine Pv.putI rfl rfl ?_
              refine Pv.aload rfl rfl ?_
              refine Pv.dup rfl ?_
              refine Pv.getI (z := Int32.ofNat (q + m)) rfl rfl ((fp_ne (Or.inr (by decide))).trans ((fp_ne (Or.inr (by decide))).trans (g4))) ?_
              refine Pv.lit rfl ?_
              refine Pv.bin (z := Int32.ofNat ((q + m) + 1)) rfl (i_add (q + m) 1) ?_
              refine Pv.putI rfl rfl ?_
              refine Pv.goto rfl ?_
              exact ih4 (0, (fp (fp (fp G 69 14 (((10 * x) + (pkw F0 n (q + m))) - 48)) 69 13 (Int32.ofNat (m + 1))) 69 4 (Int32.ofNat ((q + m) + 1))), (m + 1), ((10 * x) + (pkw F0 n (q + m))) - 48, w) (⟨by omega, (RNX.fp (RNX.fp (RNX.fp hxG (Or.inr (Or.inr (Or.inr (Or.inr rfl))))) (Or.inr (Or.inr (Or.inr (Or.inl rfl))))) (Or.inl rfl)), (fun y my => hGG y my), fun k => (fp_ne (Or.inl (by decide))).trans ((fp_ne (Or.inl (by decide))).trans ((fp_ne (Or.inl (by decide))).trans (hBG _))), (fp_ne (Or.inr (by decide))).trans ((fp_ne (Or.inr (by decide))).trans ((fp_ne (Or.inr (by decide))).trans (g3))), (fp_eq), (fp_ne (Or.inr (by decide))).trans ((fp_ne (Or.inr (by decide))).trans ((fp_ne (Or.inr (by decide))).trans (g12))), (fp_ne (Or.inr (by decide))).trans (fp_eq), (fp_ne (Or.inr (by decide))).trans ((fp_ne (Or.inr (by decide))).trans (fp_eq)), (fp_l).trans ((fp_l).trans ((fp_l).trans (g17))), (congrArg (tk_e tk_r (RBF F0 n) n) (Nat.add_assoc q m 1).symm).trans ((tk_go hq1 hr).symm.trans hrun), all_n hr (fun e => c22 (congrArg b2i e)), fun h => absurd h (by omega), fun h1 h2 => num3 (hx3 (all_1 h1) (by omega)) (all_1 h1) (by omega) (pkw_to hq1) (RB_b F0 n)⟩)
          · skip
            replace c23 := mt (i_le (a := 7) (b := m) (by omega) (by omega)).mpr (of_decide_eq_false c23)
            refine Pv.aload rfl rfl ?_
            refine Pv.aload rfl rfl ?_
            refine Pv.getL (z := w) rfl rfl (g17) ?_
            refine Pv.lit rfl ?_
            refine Pv.lsh (z := w <<< (Int32.toInt64 8 &&& 63)) rfl (rfl) ?_
            refine Pv.aload rfl rfl ?_
            refine Pv.callVI (as := [.ref 69]) (rest := [.long (w <<< (Int32.toInt64 8 &&& 63)), .ref 69]) (z := pkw F0 n (q + m)) rfl rfl rfl (g_peek (F0 := F0) (p := q + m) (n := n) hGG (g4) (g3) (by omega) (by omega) (fun q => hBG _)) ?_
            refine Pv.i2l (z := Int32.toInt64 (pkw F0 n (q + m))) rfl (rfl) ?_
            refine Pv.lbin (z := (w <<< (Int32.toInt64 8 &&& 63)) ||| (Int32.toInt64 (pkw F0 n (q + m)))) rfl (rfl) ?_
            refine Pv.putL rfl rfl ?_
            refine Pv.aload rfl rfl ?_
            refine Pv.getI (z := Int32.ofNat m) rfl rfl ((fpl_i).trans (g13)) ?_
            refine Pv.lit rfl ?_
            refine Pv.icmp rfl (fun c25 => ?_) (fun c25 => ?_)
            · skip
              replace c25 := (i_le (a := 3) (b := m) (by omega) (by omega)).mp (of_decide_eq_true c25)
              refine Pv.aload rfl rfl ?_
              refine Pv.dup rfl ?_
              refine Pv.getI (z := Int32.ofNat m) rfl rfl ((fpl_i).trans (g13)) ?_
              refine Pv.lit rfl ?_
              refine Pv.bin (z := Int32.ofNat (m + 1)) rfl (i_add m 1) ?_
              refine Pv.putI rfl rfl ?_
              refine Pv.aload rfl rfl ?_
              refine Pv.dup rfl ?_
              refine Pv.getI (z := Int32.ofNat (q + m)) rfl rfl ((fp_ne (Or.inr (by decide))).trans ((fpl_i).trans (g4))) ?_
              refine Pv.lit rfl ?_
              refine Pv.bin (z := Int32.ofNat ((q + m) + 1)) rfl (i_add (q + m) 1) ?_
              refine Pv.putI rfl rfl ?_
              refine Pv.goto rfl ?_
              exact ih4 (0, (fp (fp (fpl G 69 17 ((w <<< (Int32.toInt64 8 &&& 63)) ||| (Int32.toInt64 (pkw F0 n (q + m))))) 69 13 (Int32.ofNat (m + 1))) 69 4 (Int32.ofNat ((q + m) + 1))), (m + 1), x, (w <<< (Int32.toInt64 8 &&& 63)) ||| (Int32.toInt64 (pkw F0 n (q + m)))) (⟨by omega, (RNX.fp (RNX.fp (RNX.fl hxG) (Or.inr (Or.inr (Or.inr (Or.inl rfl))))) (Or.inl rfl)), (fun y my => hGG y my), fun k => (fp_ne (Or.inl (by decide))).trans ((fp_ne (Or.inl (by decide))).trans ((fpl_i).trans (hBG _))), (fp_ne (Or.inr (by decide))).trans ((fp_ne (Or.inr (by decide))).trans ((fpl_i).trans (g3))), (fp_eq), (fp_ne (Or.inr (by decide))).trans ((fp_ne (Or.inr (by decide))).trans ((fpl_i).trans (g12))), (fp_ne (Or.inr (by decide))).trans (fp_eq), (fp_ne (Or.inr (by decide))).trans ((fp_ne (Or.inr (by decide))).trans ((fpl_i).trans (g14))), (fp_l).trans ((fp_l).trans (fpl_eq)), (congrArg (tk_e tk_r (RBF F0 n) n) (Nat.add_assoc q m 1).symm).trans ((tk_go hq1 hr).symm.trans hrun), all_n hr (fun e => c22 (congrArg b2i e)), fun h => or8 (RB_b F0 n) (hw7 (by omega)) (by omega) (pkw_to hq1), fun h1 h2 => absurd h2 (by omega)⟩)
            · skip
              replace c25 := mt (i_le (a := 3) (b := m) (by omega) (by omega)).mpr (of_decide_eq_false c25)
              refine Pv.aload rfl rfl ?_
              refine Pv.lit rfl ?_
              refine Pv.aload rfl rfl ?_
              refine Pv.getI (z := x) rfl rfl ((fpl_i).trans (g14)) ?_
              refine Pv.bin (z := 10 * x) rfl (rfl) ?_
              refine Pv.aload rfl rfl ?_
              refine Pv.callVI (as := [.ref 69]) (rest := [.int (10 * x), .ref 69]) (z := pkw F0 n (q + m)) rfl rfl rfl (g_peek (F0 := F0) (p := q + m) (n := n) (hGG.fx (P := fun _ => True) (((FX.rf (P := fun _ => True))).fpl trivial)) ((fpl_i).trans (g4)) ((fpl_i).trans (g3)) (by omega) (by omega) (fun q => (fpl_i).trans (hBG _))) ?_
              refine Pv.bin (z := (10 * x) + (pkw F0 n (q + m))) rfl (rfl) ?_
              refine Pv.lit rfl ?_
              refine Pv.bin (z := ((10 * x) + (pkw F0 n (q + m))) - 48) rfl (rfl) ?_
              refine Pv.putI rfl rfl ?_
              refine Pv.aload rfl rfl ?_
              refine Pv.dup rfl ?_
              refine Pv.getI (z := Int32.ofNat m) rfl rfl ((fp_ne (Or.inr (by decide))).trans ((fpl_i).trans (g13))) ?_
              refine Pv.lit rfl ?_
              refine Pv.bin (z := Int32.ofNat (m + 1)) rfl (i_add m 1) ?_
              refine Pv.putI rfl rfl ?_
              refine Pv.aload rfl rfl ?_
              refine Pv.dup rfl ?_
              refine Pv.getI (z := Int32.ofNat (q + m)) rfl rfl ((fp_ne (Or.inr (by decide))).trans ((fp_ne (Or.inr (by decide))).trans ((fpl_i).trans (g4)))) ?_
              refine Pv.lit rfl ?_
              refine Pv.bin (z := Int32.ofNat ((q + m) + 1)) rfl (i_add (q + m) 1) ?_
              refine Pv.putI rfl rfl ?_
              refine Pv.goto rfl ?_
              exact ih4 (0, (fp (fp (fp (fpl G 69 17 ((w <<< (Int32.toInt64 8 &&& 63)) ||| (Int32.toInt64 (pkw F0 n (q + m))))) 69 14 (((10 * x) + (pkw F0 n (q + m))) - 48)) 69 13 (Int32.ofNat (m + 1))) 69 4 (Int32.ofNat ((q + m) + 1))), (m + 1), ((10 * x) + (pkw F0 n (q + m))) - 48, (w <<< (Int32.toInt64 8 &&& 63)) ||| (Int32.toInt64 (pkw F0 n (q + m)))) (⟨by omega, (RNX.fp (RNX.fp (RNX.fp (RNX.fl hxG) (Or.inr (Or.inr (Or.inr (Or.inr rfl))))) (Or.inr (Or.inr (Or.inr (Or.inl rfl))))) (Or.inl rfl)), (fun y my => hGG y my), fun k => (fp_ne (Or.inl (by decide))).trans ((fp_ne (Or.inl (by decide))).trans ((fp_ne (Or.inl (by decide))).trans ((fpl_i).trans (hBG _)))), (fp_ne (Or.inr (by decide))).trans ((fp_ne (Or.inr (by decide))).trans ((fp_ne (Or.inr (by decide))).trans ((fpl_i).trans (g3)))), (fp_eq), (fp_ne (Or.inr (by decide))).trans ((fp_ne (Or.inr (by decide))).trans ((fp_ne (Or.inr (by decide))).trans ((fpl_i).trans (g12)))), (fp_ne (Or.inr (by decide))).trans (fp_eq), (fp_ne (Or.inr (by decide))).trans ((fp_ne (Or.inr (by decide))).trans (fp_eq)), (fp_l).trans ((fp_l).trans ((fp_l).trans (fpl_eq))), (congrArg (tk_e tk_r (RBF F0 n) n) (Nat.add_assoc q m 1).symm).trans ((tk_go hq1 hr).symm.trans hrun), all_n hr (fun e => c22 (congrArg b2i e)), fun h => or8 (RB_b F0 n) (hw7 (by omega)) (by omega) (pkw_to hq1), fun h1 h2 => num3 (hx3 (all_1 h1) (by omega)) (all_1 h1) (by omega) (pkw_to hq1) (RB_b F0 n)⟩)
        · skip
          replace c22 : decide (b2i (tk_l ((RBF F0 n) (q + m))) = b2i sm) = true := by simpa using c22
          replace c22 := of_decide_eq_true c22
          refine Pv.lit rfl ?_
          refine Pv.goto rfl ?_
          refine Pv.istore (lo' := [some (.ref 69), o, some (.int (b2i sm)), some (.int 1)]) rfl rfl ?_
          refine Pv.aload rfl rfl ?_
          refine Pv.getI (z := Int32.ofNat m) rfl rfl (g13) ?_
          refine Pv.lit rfl ?_
          refine Pv.icmp rfl (fun c26 => ?_) (fun c26 => ?_)
          · skip
            replace c26 := (i_le (a := 7) (b := m) (by omega) (by omega)).mp (of_decide_eq_true c26)
            refine Pv.aload rfl rfl ?_
            refine Pv.getI (z := Int32.ofNat m) rfl rfl (g13) ?_
            refine Pv.lit rfl ?_
            refine Pv.icmp rfl (fun c27 => ?_) (fun c27 => ?_)
            · skip
              replace c27 := (i_le (a := 3) (b := m) (by omega) (by omega)).mp (of_decide_eq_true c27)
              refine Pv.aload rfl rfl ?_
              refine Pv.dup rfl ?_
              refine Pv.getI (z := Int32.ofNat m) rfl rfl (g13) ?_
              refine Pv.lit rfl ?_
              refine Pv.bin (z := Int32.ofNat (m + 1)) rfl (i_add m 1) ?_
              refine Pv.putI rfl rfl ?_
              refine Pv.aload rfl rfl ?_
              refine Pv.dup rfl ?_
              refine Pv.getI (z := Int32.ofNat (q + m)) rfl rfl ((fp_ne (Or.inr (by decide))).trans (g4)) ?_
              refine Pv.lit rfl ?_
              refine Pv.bin (z := Int32.ofNat ((q + m) + 1)) rfl (i_add (q + m) 1) ?_
              refine Pv.putI rfl rfl ?_
              refine Pv.goto rfl ?_
              exact ih4 (1, (fp (fp G 69 13 (Int32.ofNat (m + 1))) 69 4 (Int32.ofNat ((q + m) + 1))), (m + 1), x, w) (⟨by omega, (RNX.fp (RNX.fp hxG (Or.inr (Or.inr (Or.inr (Or.inl rfl))))) (Or.inl rfl)), (fun y my => hGG y my), fun k => (fp_ne (Or.inl (by decide))).trans ((fp_ne (Or.inl (by decide))).trans (hBG _)), (fp_ne (Or.inr (by decide))).trans ((fp_ne (Or.inr (by decide))).trans (g3)), (fp_eq), (fp_ne (Or.inr (by decide))).trans ((fp_ne (Or.inr (by decide))).trans (g12)), (fp_ne (Or.inr (by decide))).trans (fp_eq), (fp_ne (Or.inr (by decide))).trans ((fp_ne (Or.inr (by decide))).trans (g14)), (fp_l).trans ((fp_l).trans (g17)), (congrArg (tk_e tk_r (RBF F0 n) n) (Nat.add_assoc q m 1).symm).trans ((tk_go hq1 hr).symm.trans hrun), all_y (fun e => c18 (ha.trans e)) hr (b2i_inj.mp c22), fun h => absurd h (by omega), fun h1 h2 => absurd h2 (by omega)⟩)
            · skip
              replace c27 := mt (i_le (a := 3) (b := m) (by omega) (by omega)).mpr (of_decide_eq_false c27)
              refine Pv.aload rfl rfl ?_
              refine Pv.lit rfl ?_
              refine Pv.aload rfl rfl ?_
              refine Pv.getI (z := x) rfl rfl (g14) ?_
              refine Pv.bin (z := 10 * x) rfl (rfl) ?_
              refine Pv.aload rfl rfl ?_
              refine Pv.callVI (as := [.ref 69]) (rest := [.int (10 * x), .ref 69]) (z := pkw F0 n (q + m)) rfl rfl rfl (g_peek (F0 := F0) (p := q + m) (n := n) hGG (g4) (g3) (by omega) (by omega) (fun q => hBG _)) ?_
              refine Pv.bin (z := (10 * x) + (pkw F0 n (q + m))) rfl (rfl) ?_
              refine Pv.lit rfl ?_
              refine Pv.bin (z := ((10 * x) + (pkw F0 n (q + m))) - 48) rfl (rfl) ?_
              refine Pv.putI rfl rfl ?_
              refine Pv.aload rfl rfl ?_
              refine Pv.dup rfl ?_
              refine Pv.getI (z := Int32.ofNat m) rfl rfl ((fp_ne (Or.inr (by decide))).trans (g13)) ?_
              refine Pv.lit rfl ?_
              refine Pv.bin (z := Int32.ofNat (m + 1)) rfl (i_add m 1) ?_
              refine Pv.putI rfl rfl ?_
              refine Pv.aload rfl rfl ?_
              refine Pv.dup rfl ?_
              refine Pv.getI (z := Int32.ofNat (q + m)) rfl rfl ((fp_ne (Or.inr (by decide))).trans ((fp_ne (Or.inr (by decide))).trans (g4))) ?_
              refine Pv.lit rfl ?_
              refine Pv.bin (z := Int32.ofNat ((q + m) + 1)) rfl (i_add (q + m) 1) ?_
              refine Pv.putI rfl rfl ?_
              refine Pv.goto rfl ?_
              exact ih4 (1, (fp (fp (fp G 69 14 (((10 * x) + (pkw F0 n (q + m))) - 48)) 69 13 (Int32.ofNat (m + 1))) 69 4 (Int32.ofNat ((q + m) + 1))), (m + 1), ((10 * x) + (pkw F0 n (q + m))) - 48, w) (⟨by omega, (RNX.fp (RNX.fp (RNX.fp hxG (Or.inr (Or.inr (Or.inr (Or.inr rfl))))) (Or.inr (Or.inr (Or.inr (Or.inl rfl))))) (Or.inl rfl)), (fun y my => hGG y my), fun k => (fp_ne (Or.inl (by decide))).trans ((fp_ne (Or.inl (by decide))).trans ((fp_ne (Or.inl (by decide))).trans (hBG _))), (fp_ne (Or.inr (by decide))).trans ((fp_ne (Or.inr (by decide))).trans ((fp_ne (Or.inr (by decide))).trans (g3))), (fp_eq), (fp_ne (Or.inr (by decide))).trans ((fp_ne (Or.inr (by decide))).trans ((fp_ne (Or.inr (by decide))).trans (g12))), (fp_ne (Or.inr (by decide))).trans (fp_eq), (fp_ne (Or.inr (by decide))).trans ((fp_ne (Or.inr (by decide))).trans (fp_eq)), (fp_l).trans ((fp_l).trans ((fp_l).trans (g17))), (congrArg (tk_e tk_r (RBF F0 n) n) (Nat.add_assoc q m 1).symm).trans ((tk_go hq1 hr).symm.trans hrun), all_y (fun e => c18 (ha.trans e)) hr (b2i_inj.mp c22), fun h => absurd h (by omega), fun h1 h2 => num3 (hx3 (all_1 h1) (by omega)) (all_1 h1) (by omega) (pkw_to hq1) (RB_b F0 n)⟩)
          · skip
            replace c26 := mt (i_le (a := 7) (b := m) (by omega) (by omega)).mpr (of_decide_eq_false c26)
            refine Pv.aload rfl rfl ?_
            refine Pv.aload rfl rfl ?_
            refine Pv.getL (z := w) rfl rfl (g17) ?_
            refine Pv.lit rfl ?_
            refine Pv.lsh (z := w <<< (Int32.toInt64 8 &&& 63)) rfl (rfl) ?_
            refine Pv.aload rfl rfl ?_
            refine Pv.callVI (as := [.ref 69]) (rest := [.long (w <<< (Int32.toInt64 8 &&& 63)), .ref 69]) (z := pkw F0 n (q + m)) rfl rfl rfl (g_peek (F0 := F0) (p := q + m) (n := n) hGG (g4) (g3) (by omega) (by omega) (fun q => hBG _)) ?_
            refine Pv.i2l (z := Int32.toInt64 (pkw F0 n (q + m))) rfl (rfl) ?_
            refine Pv.lbin (z := (w <<< (Int32.toInt64 8 &&& 63)) ||| (Int32.toInt64 (pkw F0 n (q + m)))) rfl (rfl) ?_
            refine Pv.putL rfl rfl ?_
            refine Pv.aload rfl rfl ?_
            refine Pv.getI (z := Int32.ofNat m) rfl rfl ((fpl_i).trans (g13)) ?_
            refine Pv.lit rfl ?_
            refine Pv.icmp rfl (fun c28 => ?_) (fun c28 => ?_)
            · skip
              replace c28 := (i_le (a := 3) (b := m) (by omega) (by omega)).mp (of_decide_eq_true c28)
              refine Pv.aload rfl rfl ?_
              refine Pv.dup rfl ?_
              refine Pv.getI (z := Int32.ofNat m) rfl rfl ((fpl_i).trans (g13)) ?_
              refine Pv.lit rfl ?_
              refine Pv.bin (z := Int32.ofNat (m + 1)) rfl (i_add m 1) ?_
              refine Pv.putI rfl rfl ?_
              refine Pv.aload rfl rfl ?_
              refine Pv.dup rfl ?_
              refine Pv.getI (z := Int32.ofNat (q + m)) rfl rfl ((fp_ne (Or.inr (by decide))).trans ((fpl_i).trans (g4))) ?_
              refine Pv.lit rfl ?_
              refine Pv.bin (z := Int32.ofNat ((q + m) + 1)) rfl (i_add (q + m) 1) ?_
              refine Pv.putI rfl rfl ?_
              refine Pv.goto rfl ?_
              exact ih4 (1, (fp (fp (fpl G 69 17 ((w <<< (Int32.toInt64 8 &&& 63)) ||| (Int32.toInt64 (pkw F0 n (q + m))))) 69 13 (Int32.ofNat (m + 1))) 69 4 (Int32.ofNat ((q + m) + 1))), (m + 1), x, (w <<< (Int32.toInt64 8 &&& 63)) ||| (Int32.toInt64 (pkw F0 n (q + m)))) (⟨by omega, (RNX.fp (RNX.fp (RNX.fl hxG) (Or.inr (Or.inr (Or.inr (Or.inl rfl))))) (Or.inl rfl)), (fun y my => hGG y my), fun k => (fp_ne (Or.inl (by decide))).trans ((fp_ne (Or.inl (by decide))).trans ((fpl_i).trans (hBG _))), (fp_ne (Or.inr (by decide))).trans ((fp_ne (Or.inr (by decide))).trans ((fpl_i).trans (g3))), (fp_eq), (fp_ne (Or.inr (by decide))).trans ((fp_ne (Or.inr (by decide))).trans ((fpl_i).trans (g12))), (fp_ne (Or.inr (by decide))).trans (fp_eq), (fp_ne (Or.inr (by decide))).trans ((fp_ne (Or.inr (by decide))).trans ((fpl_i).trans (g14))), (fp_l).trans ((fp_l).trans (fpl_eq)), (congrArg (tk_e tk_r (RBF F0 n) n) (Nat.add_assoc q m 1).symm).trans ((tk_go hq1 hr).symm.trans hrun), all_y (fun e => c18 (ha.trans e)) hr (b2i_inj.mp c22), fun h => or8 (RB_b F0 n) (hw7 (by omega)) (by omega) (pkw_to hq1), fun h1 h2 => absurd h2 (by omega)⟩)
            · skip
              replace c28 := mt (i_le (a := 3) (b := m) (by omega) (by omega)).mpr (of_decide_eq_false c28)
              refine Pv.aload rfl rfl ?_
              refine Pv.lit rfl ?_
              refine Pv.aload rfl rfl ?_
              refine Pv.getI (z := x) rfl rfl ((fpl_i).trans (g14)) ?_
              refine Pv.bin (z := 10 * x) rfl (rfl) ?_
              refine Pv.aload rfl rfl ?_
              refine Pv.callVI (as := [.ref 69]) (rest := [.int (10 * x), .ref 69]) (z := pkw F0 n (q + m)) rfl rfl rfl (g_peek (F0 := F0) (p := q + m) (n := n) (hGG.fx (P := fun _ => True) (((FX.rf (P := fun _ => True))).fpl trivial)) ((fpl_i).trans (g4)) ((fpl_i).trans (g3)) (by omega) (by omega) (fun q => (fpl_i).trans (hBG _))) ?_
              refine Pv.bin (z := (10 * x) + (pkw F0 n (q + m))) rfl (rfl) ?_
              refine Pv.lit rfl ?_
              refine Pv.bin (z := ((10 * x) + (pkw F0 n (q + m))) - 48) rfl (rfl) ?_
              refine Pv.putI rfl rfl ?_
              refine Pv.aload rfl rfl ?_
              refine Pv.dup rfl ?_
              refine Pv.getI (z := Int32.ofNat m) rfl rfl ((fp_ne (Or.inr (by decide))).trans ((fpl_i).trans (g13))) ?_
              refine Pv.lit rfl ?_
              refine Pv.bin (z := Int32.ofNat (m + 1)) rfl (i_add m 1) ?_
              refine Pv.putI rfl rfl ?_
              refine Pv.aload rfl rfl ?_
              refine Pv.dup rfl ?_
              refine Pv.getI (z := Int32.ofNat (q + m)) rfl rfl ((fp_ne (Or.inr (by decide))).trans ((fp_ne (Or.inr (by decide))).trans ((fpl_i).trans (g4)))) ?_
              refine Pv.lit rfl ?_
              refine Pv.bin (z := Int32.ofNat ((q + m) + 1)) rfl (i_add (q + m) 1) ?_
              refine Pv.putI rfl rfl ?_
              refine Pv.goto rfl ?_
              exact ih4 (1, (fp (fp (fp (fpl G 69 17 ((w <<< (Int32.toInt64 8 &&& 63)) ||| (Int32.toInt64 (pkw F0 n (q + m))))) 69 14 (((10 * x) + (pkw F0 n (q + m))) - 48)) 69 13 (Int32.ofNat (m + 1))) 69 4 (Int32.ofNat ((q + m) + 1))), (m + 1), ((10 * x) + (pkw F0 n (q + m))) - 48, (w <<< (Int32.toInt64 8 &&& 63)) ||| (Int32.toInt64 (pkw F0 n (q + m)))) (⟨by omega, (RNX.fp (RNX.fp (RNX.fp (RNX.fl hxG) (Or.inr (Or.inr (Or.inr (Or.inr rfl))))) (Or.inr (Or.inr (Or.inr (Or.inl rfl))))) (Or.inl rfl)), (fun y my => hGG y my), fun k => (fp_ne (Or.inl (by decide))).trans ((fp_ne (Or.inl (by decide))).trans ((fp_ne (Or.inl (by decide))).trans ((fpl_i).trans (hBG _)))), (fp_ne (Or.inr (by decide))).trans ((fp_ne (Or.inr (by decide))).trans ((fp_ne (Or.inr (by decide))).trans ((fpl_i).trans (g3)))), (fp_eq), (fp_ne (Or.inr (by decide))).trans ((fp_ne (Or.inr (by decide))).trans ((fp_ne (Or.inr (by decide))).trans ((fpl_i).trans (g12)))), (fp_ne (Or.inr (by decide))).trans (fp_eq), (fp_ne (Or.inr (by decide))).trans ((fp_ne (Or.inr (by decide))).trans (fp_eq)), (fp_l).trans ((fp_l).trans ((fp_l).trans (fpl_eq))), (congrArg (tk_e tk_r (RBF F0 n) n) (Nat.add_assoc q m 1).symm).trans ((tk_go hq1 hr).symm.trans hrun), all_y (fun e => c18 (ha.trans e)) hr (b2i_inj.mp c22), fun h => or8 (RB_b F0 n) (hw7 (by omega)) (by omega) (pkw_to hq1), fun h1 h2 => num3 (hx3 (all_1 h1) (by omega)) (all_1 h1) (by omega) (pkw_to hq1) (RB_b F0 n)⟩)
set_option maxRecDepth 100000 in
set_option maxHeartbeats 4000000 in
theorem g_next {F : FW} {n p lim : Nat} (hG : GW F) (h3 : F.1 69 3 = Int32.ofNat n) (h4 : F.1 69 4 = Int32.ofNat p) (h5 : F.1 69 5 = Int32.ofNat lim) (hn : n ≤ 940) (hpn : p ≤ n) (hl : lim ≤ 940) : Pm Z_X11_next [.ref 69] F (fun r F' => r = none ∧ RNX F F' ∧ NTF F' (tkt (RBF F n) n lim p)) := by
  refine Pm.of fun N => ?_
  obtain ⟨Q, hQ⟩ : ∃ Q : Option Value → FW → Prop, Q = (fun r F' => r = none ∧ RNX F F' ∧ NTF F' (tkt (RBF F n) n lim p)) := ⟨_, rfl⟩
  rw [← hQ]
  refine Pv.fE (G := fp F 69 4 (Int32.ofNat p)) (fp_id h4) ?_
  refine (show Pv (ab_T (L_X11_next Z_X11_peek Z_X11_isSmall Z_X11_isDigit)) N 0 [some (.ref 69), none, none, none] [] (fp F 69 4 (Int32.ofNat p)) Q from ?_)
  refine Pv.lp (ι := Nat) (lof := fun q => [some (.ref 69), none, none, none]) (Ff := fun q => (fp F 69 4 (Int32.ofNat q))) (P := fun q => p ≤ q ∧ q ≤ n ∧ tk_e tk_b (RBF F n) n q = tk_e tk_b (RBF F n) n p) ?_ p (⟨Nat.le_refl _, hpn, rfl⟩)
  rintro N1 hN2 q hi3 ih4
  refine (show Pv _ _ 0 [some (.ref 69), none, none, none] [] (fp F 69 4 (Int32.ofNat q)) Q from ?_)
  obtain ⟨hpq, hqn0, hrun⟩ := hi3
  refine Pv.aloadS rfl rfl ?_
  refine Pv.callVI (as := [.ref 69]) (rest := []) (z := pkw F n q) rfl rfl rfl (g_peek (F0 := F) (p := q) (n := n) (hG.fx (P := fun _ => True) (((FX.rf (P := fun _ => True))).fp trivial)) (fp_eq) ((fp_ne (Or.inr (by decide))).trans (h3)) (by omega) (by omega) (fun q => fp_ne (Or.inl (by decide)))) ?_
  refine Pv.lit rfl ?_
  refine Pv.icmp rfl (fun c5 => ?_) (fun c5 => ?_)
  · skip
    replace c5 := of_decide_eq_true c5
    have hqy := pkw_in c5 (by decide)
    have hby : tk_b ((RBF F n) q) = true := by rw [hqy.2]; decide
    refine Pv.aload rfl rfl ?_
    refine Pv.dup rfl ?_
    refine Pv.getI (z := Int32.ofNat q) rfl rfl (fp_eq) ?_
    refine Pv.lit rfl ?_
    refine Pv.bin (z := Int32.ofNat (q + 1)) rfl (i_add q 1) ?_
    refine Pv.putI rfl rfl ?_
    refine Pv.goto rfl ?_
    refine Pv.fE (G := fp F 69 4 (Int32.ofNat (q + 1))) (fp_fp) ?_
    exact ih4 (q + 1) (⟨by omega, by omega, (tk_go hqy.1 hby).symm.trans hrun⟩)
  · skip
    replace c5 := of_decide_eq_false c5
    refine Pv.aload rfl rfl ?_
    refine Pv.callVI (as := [.ref 69]) (rest := []) (z := pkw F n q) rfl rfl rfl (g_peek (F0 := F) (p := q) (n := n) (hG.fx (P := fun _ => True) (((FX.rf (P := fun _ => True))).fp trivial)) (fp_eq) ((fp_ne (Or.inr (by decide))).trans (h3)) (by omega) (by omega) (fun q => fp_ne (Or.inl (by decide)))) ?_
    refine Pv.lit rfl ?_
    refine Pv.icmp rfl (fun c6 => ?_) (fun c6 => ?_)
    · skip
      replace c6 : decide (pkw F n q = 10) = false := by simpa using c6
      replace c6 := of_decide_eq_false c6
      have hs : tk_e tk_b (RBF F n) n p = q := hrun.symm.trans (tk_stop (pkw_nb c5 c6))
      have ht : tkt (RBF F n) n lim p = tkq (RBF F n) n lim q := congrArg (tkq (RBF F n) n lim) hs
      refine Pv.aload rfl rfl ?_
      refine Pv.aload rfl rfl ?_
      refine Pv.getI (z := Int32.ofNat q) rfl rfl (fp_eq) ?_
      refine Pv.putI rfl rfl ?_
      refine Pv.aload rfl rfl ?_
      refine Pv.lit rfl ?_
      refine Pv.putI rfl rfl ?_
      refine Pv.aload rfl rfl ?_
      refine Pv.getI (z := Int32.ofNat n) rfl rfl ((fp_ne (Or.inr (by decide))).trans ((fp_ne (Or.inr (by decide))).trans ((fp_ne (Or.inr (by decide))).trans (h3)))) ?_
      refine Pv.aload rfl rfl ?_
      refine Pv.getI (z := Int32.ofNat lim) rfl rfl ((fp_ne (Or.inr (by decide))).trans ((fp_ne (Or.inr (by decide))).trans ((fp_ne (Or.inr (by decide))).trans (h5)))) ?_
      refine Pv.icmp rfl (fun c7 => ?_) (fun c7 => ?_)
      · skip
        replace c7 := (i_le (a := n) (b := lim) (by omega) (by omega)).mp (of_decide_eq_true c7)
        have hlim : ¬ (lim < n ∧ lim ≤ q) := by omega
        refine Pv.aload rfl rfl ?_
        refine Pv.callVI (as := [.ref 69]) (rest := []) (z := pkw F n q) rfl rfl rfl (g_peek (F0 := F) (p := q) (n := n) (hG.fx (P := fun _ => True) (((((FX.rf (P := fun _ => True))).fp trivial).fp trivial).fp trivial)) ((fp_ne (Or.inr (by decide))).trans ((fp_ne (Or.inr (by decide))).trans (fp_eq))) ((fp_ne (Or.inr (by decide))).trans ((fp_ne (Or.inr (by decide))).trans ((fp_ne (Or.inr (by decide))).trans (h3)))) (by omega) (by omega) (fun q => (fp_ne (Or.inl (by decide))).trans ((fp_ne (Or.inl (by decide))).trans (fp_ne (Or.inl (by decide)))))) ?_
        refine Pv.istore (lo' := [some (.ref 69), some (.int (pkw F n q)), none, none]) rfl rfl ?_
        refine Pv.iload rfl rfl ?_
        refine Pv.if0 rfl (fun c8 => ?_) (fun c8 => ?_)
        · skip
          replace c8 := of_decide_eq_true c8
          refine Pv.iload rfl rfl ?_
          refine Pv.callI (as := [.int (pkw F n q)]) (rest := []) (z := b2i (smL (pkw F n q))) rfl rfl rfl (g_isSmall (pkw F n q)) ?_
          refine Pv.if0 rfl (fun c9 => ?_) (fun c9 => ?_)
          · skip
            replace c9 : decide (b2i (smL (pkw F n q)) = 0) = false := by simpa using c9
            replace c9 := of_decide_eq_false c9
            replace c9 := b2n.mp c9
            refine Pv.iload rfl rfl ?_
            refine Pv.callI (as := [.int (pkw F n q)]) (rest := []) (z := b2i (smL (pkw F n q))) rfl rfl rfl (g_isSmall (pkw F n q)) ?_
            refine Pv.istore (lo' := [some (.ref 69), some (.int (pkw F n q)), some (.int (b2i (smL (pkw F n q)))), none]) rfl rfl ?_
            refine Pv.lit rfl ?_
            refine Pv.istore (lo' := [some (.ref 69), some (.int (pkw F n q)), some (.int (b2i (smL (pkw F n q)))), some (.int 1)]) rfl rfl ?_
            refine Pv.aload rfl rfl ?_
            refine Pv.lit rfl ?_
            refine Pv.putL rfl rfl ?_
            refine Pv.aload rfl rfl ?_
            refine Pv.lit rfl ?_
            refine Pv.putI rfl rfl ?_
            have hq2 := sm_t c9
            have hfr : tk_r ((RBF F n) q) = true := tk_r_l hq2.2
            have hq1 : q < n := hq2.1
            refine (g_nx181 (F0 := F) (q := q) (n := n) (sm := smL (pkw F n q)) (hG.fx (P := fun _ => True) (((((((FX.rf (P := fun _ => True))).fp trivial).fp trivial).fp trivial).fpl trivial).fp trivial)) (RNX.fp (RNX.fl (RNX.fp (RNX.fp (RNX.fp RNX.rf (Or.inl rfl)) (Or.inr (Or.inr (Or.inl rfl)))) (Or.inr (Or.inr (Or.inr (Or.inl rfl)))))) (Or.inr (Or.inr (Or.inr (Or.inr rfl))))) (fun k => (fp_ne (Or.inl (by decide))).trans ((fpl_i).trans ((fp_ne (Or.inl (by decide))).trans ((fp_ne (Or.inl (by decide))).trans (fp_ne (Or.inl (by decide))))))) ((fp_ne (Or.inr (by decide))).trans ((fpl_i).trans ((fp_ne (Or.inr (by decide))).trans ((fp_ne (Or.inr (by decide))).trans ((fp_ne (Or.inr (by decide))).trans (h3)))))) ((fp_ne (Or.inr (by decide))).trans ((fpl_i).trans ((fp_ne (Or.inr (by decide))).trans ((fp_ne (Or.inr (by decide))).trans (fp_eq))))) ((fp_ne (Or.inr (by decide))).trans ((fpl_i).trans ((fp_ne (Or.inr (by decide))).trans (fp_eq)))) ((fp_ne (Or.inr (by decide))).trans ((fpl_i).trans (fp_eq))) (fp_eq) ((fp_l).trans (fpl_eq)) hn hq1 (by rw [cls_eq _ hfr, sm_eq hq1]; exact beq_self_eq_true _) hfr _ _).imp (fun r F' h => ?_)
            rw [hQ, ht, tkq_run hlim hq1 hfr]
            exact h
          · skip
            replace c9 : decide (b2i (smL (pkw F n q)) = 0) = true := by simpa using c9
            replace c9 := of_decide_eq_true c9
            replace c9 := b2z.mp c9
            refine Pv.iload rfl rfl ?_
            refine Pv.callI (as := [.int (pkw F n q)]) (rest := []) (z := b2i (dgL (pkw F n q))) rfl rfl rfl (g_isDigit (pkw F n q)) ?_
            refine Pv.if0 rfl (fun c10 => ?_) (fun c10 => ?_)
            · skip
              replace c10 : decide (b2i (dgL (pkw F n q)) = 0) = false := by simpa using c10
              replace c10 := of_decide_eq_false c10
              replace c10 := b2n.mp c10
              refine Pv.iload rfl rfl ?_
              refine Pv.callI (as := [.int (pkw F n q)]) (rest := []) (z := b2i (smL (pkw F n q))) rfl rfl rfl (g_isSmall (pkw F n q)) ?_
              refine Pv.istore (lo' := [some (.ref 69), some (.int (pkw F n q)), some (.int (b2i (smL (pkw F n q)))), none]) rfl rfl ?_
              refine Pv.lit rfl ?_
              refine Pv.istore (lo' := [some (.ref 69), some (.int (pkw F n q)), some (.int (b2i (smL (pkw F n q)))), some (.int 1)]) rfl rfl ?_
              refine Pv.aload rfl rfl ?_
              refine Pv.lit rfl ?_
              refine Pv.putL rfl rfl ?_
              refine Pv.aload rfl rfl ?_
              refine Pv.lit rfl ?_
              refine Pv.putI rfl rfl ?_
              have hq2 := dg_t c10
              have hfr : tk_r ((RBF F n) q) = true := tk_r_d hq2.2
              have hq1 : q < n := hq2.1
              refine (g_nx181 (F0 := F) (q := q) (n := n) (sm := smL (pkw F n q)) (hG.fx (P := fun _ => True) (((((((FX.rf (P := fun _ => True))).fp trivial).fp trivial).fp trivial).fpl trivial).fp trivial)) (RNX.fp (RNX.fl (RNX.fp (RNX.fp (RNX.fp RNX.rf (Or.inl rfl)) (Or.inr (Or.inr (Or.inl rfl)))) (Or.inr (Or.inr (Or.inr (Or.inl rfl)))))) (Or.inr (Or.inr (Or.inr (Or.inr rfl))))) (fun k => (fp_ne (Or.inl (by decide))).trans ((fpl_i).trans ((fp_ne (Or.inl (by decide))).trans ((fp_ne (Or.inl (by decide))).trans (fp_ne (Or.inl (by decide))))))) ((fp_ne (Or.inr (by decide))).trans ((fpl_i).trans ((fp_ne (Or.inr (by decide))).trans ((fp_ne (Or.inr (by decide))).trans ((fp_ne (Or.inr (by decide))).trans (h3)))))) ((fp_ne (Or.inr (by decide))).trans ((fpl_i).trans ((fp_ne (Or.inr (by decide))).trans ((fp_ne (Or.inr (by decide))).trans (fp_eq))))) ((fp_ne (Or.inr (by decide))).trans ((fpl_i).trans ((fp_ne (Or.inr (by decide))).trans (fp_eq)))) ((fp_ne (Or.inr (by decide))).trans ((fpl_i).trans (fp_eq))) (fp_eq) ((fp_l).trans (fpl_eq)) hn hq1 (by rw [cls_eq _ hfr, sm_eq hq1]; exact beq_self_eq_true _) hfr _ _).imp (fun r F' h => ?_)
              rw [hQ, ht, tkq_run hlim hq1 hfr]
              exact h
            · skip
              replace c10 : decide (b2i (dgL (pkw F n q)) = 0) = true := by simpa using c10
              replace c10 := of_decide_eq_true c10
              replace c10 := b2z.mp c10
              refine Pv.aload rfl rfl ?_
              refine Pv.iload rfl rfl ?_
              refine Pv.lit rfl ?_
              refine Pv.icmp rfl (fun c11 => ?_) (fun c11 => ?_)
              · skip
                replace c11 := of_decide_eq_true c11
                refine Pv.lit rfl ?_
                refine Pv.goto rfl ?_
                refine Pv.putI rfl rfl ?_
                refine Pv.aload rfl rfl ?_
                refine Pv.iload rfl rfl ?_
                refine Pv.putI rfl rfl ?_
                refine Pv.aload rfl rfl ?_
                refine Pv.dup rfl ?_
                refine Pv.getI (z := Int32.ofNat q) rfl rfl ((fp_ne (Or.inr (by decide))).trans ((fp_ne (Or.inr (by decide))).trans ((fp_ne (Or.inr (by decide))).trans ((fp_ne (Or.inr (by decide))).trans (fp_eq))))) ?_
                refine Pv.lit rfl ?_
                refine Pv.bin (z := Int32.ofNat (q + 1)) rfl (i_add q 1) ?_
                refine Pv.putI rfl rfl ?_
                have hq1 := pkw_pos c8
                have hr0 : tk_r ((RBF F n) q) = false := tk_r_f (sm_f hq1 c9) (dg_f hq1 c10)
                have sg := sg_y hq1 c11 (Or.inl rfl)
                have TK := ht.trans (tkq_sig hlim hq1 hr0)
                exact Pv.vret rfl (by rw [hQ]; exact ⟨rfl, (RNX.fp (RNX.fp (RNX.fp (RNX.fp (RNX.fp (RNX.fp RNX.rf (Or.inl rfl)) (Or.inr (Or.inr (Or.inl rfl)))) (Or.inr (Or.inr (Or.inr (Or.inl rfl))))) (Or.inr (Or.inl rfl))) (Or.inr (Or.inr (Or.inr (Or.inr rfl))))) (Or.inl rfl)), by rw [TK]; exact ⟨(congrArg Int32.toInt ((fp_ne (Or.inr (by decide))).trans ((fp_ne (Or.inr (by decide))).trans ((fp_ne (Or.inr (by decide))).trans ((fp_ne (Or.inr (by decide))).trans (fp_eq)))))).trans (i_toInt (by omega)), fp_eq, (congrArg Int32.toInt ((fp_ne (Or.inr (by decide))).trans ((fp_ne (Or.inr (by decide))).trans (fp_eq)))).trans ((show (3 : Int32).toInt = rkk (tsg ((RBF F n) q)) by rw [sg.1, sg.2]; rfl)), fun e => absurd e (by show rkk (tsg ((RBF F n) q)) ≠ 2; rw [sg.1, sg.2]; decide), fun _ => (congrArg Int32.toInt ((fp_ne (Or.inr (by decide))).trans (fp_eq))).trans (show (pkw F n q).toInt = tsg ((RBF F n) q) by rw [sg.1, pkw_to hq1]), fun e => absurd e (by show rkk (tsg ((RBF F n) q)) ≠ 1; rw [sg.1, sg.2]; decide)⟩⟩)
              · skip
                replace c11 := of_decide_eq_false c11
                refine Pv.iload rfl rfl ?_
                refine Pv.lit rfl ?_
                refine Pv.icmp rfl (fun c12 => ?_) (fun c12 => ?_)
                · skip
                  replace c12 := of_decide_eq_true c12
                  refine Pv.lit rfl ?_
                  refine Pv.goto rfl ?_
                  refine Pv.putI rfl rfl ?_
                  refine Pv.aload rfl rfl ?_
                  refine Pv.iload rfl rfl ?_
                  refine Pv.putI rfl rfl ?_
                  refine Pv.aload rfl rfl ?_
                  refine Pv.dup rfl ?_
                  refine Pv.getI (z := Int32.ofNat q) rfl rfl ((fp_ne (Or.inr (by decide))).trans ((fp_ne (Or.inr (by decide))).trans ((fp_ne (Or.inr (by decide))).trans ((fp_ne (Or.inr (by decide))).trans (fp_eq))))) ?_
                  refine Pv.lit rfl ?_
                  refine Pv.bin (z := Int32.ofNat (q + 1)) rfl (i_add q 1) ?_
                  refine Pv.putI rfl rfl ?_
                  have hq1 := pkw_pos c8
                  have hr0 : tk_r ((RBF F n) q) = false := tk_r_f (sm_f hq1 c9) (dg_f hq1 c10)
                  have sg := sg_y hq1 c12 (Or.inr (Or.inl rfl))
                  have TK := ht.trans (tkq_sig hlim hq1 hr0)
                  exact Pv.vret rfl (by rw [hQ]; exact ⟨rfl, (RNX.fp (RNX.fp (RNX.fp (RNX.fp (RNX.fp (RNX.fp RNX.rf (Or.inl rfl)) (Or.inr (Or.inr (Or.inl rfl)))) (Or.inr (Or.inr (Or.inr (Or.inl rfl))))) (Or.inr (Or.inl rfl))) (Or.inr (Or.inr (Or.inr (Or.inr rfl))))) (Or.inl rfl)), by rw [TK]; exact ⟨(congrArg Int32.toInt ((fp_ne (Or.inr (by decide))).trans ((fp_ne (Or.inr (by decide))).trans ((fp_ne (Or.inr (by decide))).trans ((fp_ne (Or.inr (by decide))).trans (fp_eq)))))).trans (i_toInt (by omega)), fp_eq, (congrArg Int32.toInt ((fp_ne (Or.inr (by decide))).trans ((fp_ne (Or.inr (by decide))).trans (fp_eq)))).trans ((show (3 : Int32).toInt = rkk (tsg ((RBF F n) q)) by rw [sg.1, sg.2]; rfl)), fun e => absurd e (by show rkk (tsg ((RBF F n) q)) ≠ 2; rw [sg.1, sg.2]; decide), fun _ => (congrArg Int32.toInt ((fp_ne (Or.inr (by decide))).trans (fp_eq))).trans (show (pkw F n q).toInt = tsg ((RBF F n) q) by rw [sg.1, pkw_to hq1]), fun e => absurd e (by show rkk (tsg ((RBF F n) q)) ≠ 1; rw [sg.1, sg.2]; decide)⟩⟩)
                · skip
                  replace c12 := of_decide_eq_false c12
                  refine Pv.iload rfl rfl ?_
                  refine Pv.lit rfl ?_
                  refine Pv.icmp rfl (fun c13 => ?_) (fun c13 => ?_)
                  · skip
                    replace c13 := of_decide_eq_true c13
                    refine Pv.lit rfl ?_
                    refine Pv.goto rfl ?_
                    refine Pv.putI rfl rfl ?_
                    refine Pv.aload rfl rfl ?_
                    refine Pv.iload rfl rfl ?_
                    refine Pv.putI rfl rfl ?_
                    refine Pv.aload rfl rfl ?_
                    refine Pv.dup rfl ?_
                    refine Pv.getI (z := Int32.ofNat q) rfl rfl ((fp_ne (Or.inr (by decide))).trans ((fp_ne (Or.inr (by decide))).trans ((fp_ne (Or.inr (by decide))).trans ((fp_ne (Or.inr (by decide))).trans (fp_eq))))) ?_
                    refine Pv.lit rfl ?_
                    refine Pv.bin (z := Int32.ofNat (q + 1)) rfl (i_add q 1) ?_
                    refine Pv.putI rfl rfl ?_
                    have hq1 := pkw_pos c8
                    have hr0 : tk_r ((RBF F n) q) = false := tk_r_f (sm_f hq1 c9) (dg_f hq1 c10)
                    have sg := sg_y hq1 c13 (Or.inr (Or.inr (Or.inl rfl)))
                    have TK := ht.trans (tkq_sig hlim hq1 hr0)
                    exact Pv.vret rfl (by rw [hQ]; exact ⟨rfl, (RNX.fp (RNX.fp (RNX.fp (RNX.fp (RNX.fp (RNX.fp RNX.rf (Or.inl rfl)) (Or.inr (Or.inr (Or.inl rfl)))) (Or.inr (Or.inr (Or.inr (Or.inl rfl))))) (Or.inr (Or.inl rfl))) (Or.inr (Or.inr (Or.inr (Or.inr rfl))))) (Or.inl rfl)), by rw [TK]; exact ⟨(congrArg Int32.toInt ((fp_ne (Or.inr (by decide))).trans ((fp_ne (Or.inr (by decide))).trans ((fp_ne (Or.inr (by decide))).trans ((fp_ne (Or.inr (by decide))).trans (fp_eq)))))).trans (i_toInt (by omega)), fp_eq, (congrArg Int32.toInt ((fp_ne (Or.inr (by decide))).trans ((fp_ne (Or.inr (by decide))).trans (fp_eq)))).trans ((show (3 : Int32).toInt = rkk (tsg ((RBF F n) q)) by rw [sg.1, sg.2]; rfl)), fun e => absurd e (by show rkk (tsg ((RBF F n) q)) ≠ 2; rw [sg.1, sg.2]; decide), fun _ => (congrArg Int32.toInt ((fp_ne (Or.inr (by decide))).trans (fp_eq))).trans (show (pkw F n q).toInt = tsg ((RBF F n) q) by rw [sg.1, pkw_to hq1]), fun e => absurd e (by show rkk (tsg ((RBF F n) q)) ≠ 1; rw [sg.1, sg.2]; decide)⟩⟩)
                  · skip
                    replace c13 := of_decide_eq_false c13
                    refine Pv.iload rfl rfl ?_
                    refine Pv.lit rfl ?_
                    refine Pv.icmp rfl (fun c14 => ?_) (fun c14 => ?_)
                    · skip
                      replace c14 := of_decide_eq_true c14
                      refine Pv.lit rfl ?_
                      refine Pv.putI rfl rfl ?_
                      refine Pv.aload rfl rfl ?_
                      refine Pv.iload rfl rfl ?_
                      refine Pv.putI rfl rfl ?_
                      refine Pv.aload rfl rfl ?_
                      refine Pv.dup rfl ?_
                      refine Pv.getI (z := Int32.ofNat q) rfl rfl ((fp_ne (Or.inr (by decide))).trans ((fp_ne (Or.inr (by decide))).trans ((fp_ne (Or.inr (by decide))).trans ((fp_ne (Or.inr (by decide))).trans (fp_eq))))) ?_
                      refine Pv.lit rfl ?_
                      refine Pv.bin (z := Int32.ofNat (q + 1)) rfl (i_add q 1) ?_
                      refine Pv.putI rfl rfl ?_
                      have hq1 := pkw_pos c8
                      have hr0 : tk_r ((RBF F n) q) = false := tk_r_f (sm_f hq1 c9) (dg_f hq1 c10)
                      have sg := sg_n hq1 c11 c12 c13 (Or.inl c14)
                      have TK := ht.trans (tkq_sig hlim hq1 hr0)
                      exact Pv.vret rfl (by rw [hQ]; exact ⟨rfl, (RNX.fp (RNX.fp (RNX.fp (RNX.fp (RNX.fp (RNX.fp RNX.rf (Or.inl rfl)) (Or.inr (Or.inr (Or.inl rfl)))) (Or.inr (Or.inr (Or.inr (Or.inl rfl))))) (Or.inr (Or.inl rfl))) (Or.inr (Or.inr (Or.inr (Or.inr rfl))))) (Or.inl rfl)), by rw [TK]; exact ⟨(congrArg Int32.toInt ((fp_ne (Or.inr (by decide))).trans ((fp_ne (Or.inr (by decide))).trans ((fp_ne (Or.inr (by decide))).trans ((fp_ne (Or.inr (by decide))).trans (fp_eq)))))).trans (i_toInt (by omega)), fp_eq, (congrArg Int32.toInt ((fp_ne (Or.inr (by decide))).trans ((fp_ne (Or.inr (by decide))).trans (fp_eq)))).trans ((show (4 : Int32).toInt = rkk (tsg ((RBF F n) q)) by rw [sg]; rfl)), fun e => absurd e (by show rkk (tsg ((RBF F n) q)) ≠ 2; rw [sg]; decide), fun e => absurd e (by show rkk (tsg ((RBF F n) q)) ≠ 3; rw [sg]; decide), fun e => absurd e (by show rkk (tsg ((RBF F n) q)) ≠ 1; rw [sg]; decide)⟩⟩)
                    · skip
                      replace c14 := of_decide_eq_false c14
                      refine Pv.iload rfl rfl ?_
                      refine Pv.lit rfl ?_
                      refine Pv.icmp rfl (fun c15 => ?_) (fun c15 => ?_)
                      · skip
                        replace c15 := of_decide_eq_true c15
                        refine Pv.lit rfl ?_
                        refine Pv.putI rfl rfl ?_
                        refine Pv.aload rfl rfl ?_
                        refine Pv.iload rfl rfl ?_
                        refine Pv.putI rfl rfl ?_
                        refine Pv.aload rfl rfl ?_
                        refine Pv.dup rfl ?_
                        refine Pv.getI (z := Int32.ofNat q) rfl rfl ((fp_ne (Or.inr (by decide))).trans ((fp_ne (Or.inr (by decide))).trans ((fp_ne (Or.inr (by decide))).trans ((fp_ne (Or.inr (by decide))).trans (fp_eq))))) ?_
                        refine Pv.lit rfl ?_
                        refine Pv.bin (z := Int32.ofNat (q + 1)) rfl (i_add q 1) ?_
                        refine Pv.putI rfl rfl ?_
                        have hq1 := pkw_pos c8
                        have hr0 : tk_r ((RBF F n) q) = false := tk_r_f (sm_f hq1 c9) (dg_f hq1 c10)
                        have sg := sg_n hq1 c11 c12 c13 (Or.inr c15)
                        have TK := ht.trans (tkq_sig hlim hq1 hr0)
                        exact Pv.vret rfl (by rw [hQ]; exact ⟨rfl, (RNX.fp (RNX.fp (RNX.fp (RNX.fp (RNX.fp (RNX.fp RNX.rf (Or.inl rfl)) (Or.inr (Or.inr (Or.inl rfl)))) (Or.inr (Or.inr (Or.inr (Or.inl rfl))))) (Or.inr (Or.inl rfl))) (Or.inr (Or.inr (Or.inr (Or.inr rfl))))) (Or.inl rfl)), by rw [TK]; exact ⟨(congrArg Int32.toInt ((fp_ne (Or.inr (by decide))).trans ((fp_ne (Or.inr (by decide))).trans ((fp_ne (Or.inr (by decide))).trans ((fp_ne (Or.inr (by decide))).trans (fp_eq)))))).trans (i_toInt (by omega)), fp_eq, (congrArg Int32.toInt ((fp_ne (Or.inr (by decide))).trans ((fp_ne (Or.inr (by decide))).trans (fp_eq)))).trans ((show (4 : Int32).toInt = rkk (tsg ((RBF F n) q)) by rw [sg]; rfl)), fun e => absurd e (by show rkk (tsg ((RBF F n) q)) ≠ 2; rw [sg]; decide), fun e => absurd e (by show rkk (tsg ((RBF F n) q)) ≠ 3; rw [sg]; decide), fun e => absurd e (by show rkk (tsg ((RBF F n) q)) ≠ 1; rw [sg]; decide)⟩⟩)
                      · skip
                        replace c15 := of_decide_eq_false c15
                        refine Pv.lit rfl ?_
                        refine Pv.goto rfl ?_
                        refine Pv.putI rfl rfl ?_
                        refine Pv.aload rfl rfl ?_
                        refine Pv.iload rfl rfl ?_
                        refine Pv.putI rfl rfl ?_
                        refine Pv.aload rfl rfl ?_
                        refine Pv.dup rfl ?_
                        refine Pv.getI (z := Int32.ofNat q) rfl rfl ((fp_ne (Or.inr (by decide))).trans ((fp_ne (Or.inr (by decide))).trans ((fp_ne (Or.inr (by decide))).trans ((fp_ne (Or.inr (by decide))).trans (fp_eq))))) ?_
                        refine Pv.lit rfl ?_
                        refine Pv.bin (z := Int32.ofNat (q + 1)) rfl (i_add q 1) ?_
                        refine Pv.putI rfl rfl ?_
                        have hq1 := pkw_pos c8
                        have hr0 : tk_r ((RBF F n) q) = false := tk_r_f (sm_f hq1 c9) (dg_f hq1 c10)
                        have sg := sg_3 hq1 c14 c15
                        have TK := ht.trans (tkq_sig hlim hq1 hr0)
                        exact Pv.vret rfl (by rw [hQ]; exact ⟨rfl, (RNX.fp (RNX.fp (RNX.fp (RNX.fp (RNX.fp (RNX.fp RNX.rf (Or.inl rfl)) (Or.inr (Or.inr (Or.inl rfl)))) (Or.inr (Or.inr (Or.inr (Or.inl rfl))))) (Or.inr (Or.inl rfl))) (Or.inr (Or.inr (Or.inr (Or.inr rfl))))) (Or.inl rfl)), by rw [TK]; exact ⟨(congrArg Int32.toInt ((fp_ne (Or.inr (by decide))).trans ((fp_ne (Or.inr (by decide))).trans ((fp_ne (Or.inr (by decide))).trans ((fp_ne (Or.inr (by decide))).trans (fp_eq)))))).trans (i_toInt (by omega)), fp_eq, (congrArg Int32.toInt ((fp_ne (Or.inr (by decide))).trans ((fp_ne (Or.inr (by decide))).trans (fp_eq)))).trans ((show (3 : Int32).toInt = rkk (tsg ((RBF F n) q)) by rw [sg.1, sg.2]; rfl)), fun e => absurd e (by show rkk (tsg ((RBF F n) q)) ≠ 2; rw [sg.1, sg.2]; decide), fun _ => (congrArg Int32.toInt ((fp_ne (Or.inr (by decide))).trans (fp_eq))).trans (show (pkw F n q).toInt = tsg ((RBF F n) q) by rw [sg.1, pkw_to hq1]), fun e => absurd e (by show rkk (tsg ((RBF F n) q)) ≠ 1; rw [sg.1, sg.2]; decide)⟩⟩)
        · skip
          replace c8 := of_decide_eq_false c8
          refine Pv.aload rfl rfl ?_
          refine Pv.lit rfl ?_
          refine Pv.putI rfl rfl ?_
          have hnq : q = n := by have := pkw_neg c8; omega
          have TK := ht.trans (tkq_end hlim (by omega))
          exact Pv.vret rfl (by rw [hQ]; exact ⟨rfl, (RNX.fp (RNX.fp (RNX.fp (RNX.fp RNX.rf (Or.inl rfl)) (Or.inr (Or.inr (Or.inl rfl)))) (Or.inr (Or.inr (Or.inr (Or.inl rfl))))) (Or.inr (Or.inl rfl))), by rw [TK]; exact ⟨(congrArg Int32.toInt ((fp_ne (Or.inr (by decide))).trans ((fp_ne (Or.inr (by decide))).trans (fp_eq)))).trans ((i_toInt (by omega)).trans (congrArg Int.ofNat hnq)), (fp_ne (Or.inr (by decide))).trans ((fp_ne (Or.inr (by decide))).trans ((fp_ne (Or.inr (by decide))).trans (fp_eq))), (congrArg Int32.toInt (fp_eq)).trans (rfl), fun e => absurd e (by show rkk 0 ≠ 2; decide), fun e => absurd e (by show rkk 0 ≠ 3; decide), fun e => absurd e (by show rkk 0 ≠ 1; decide)⟩⟩)
      · skip
        replace c7 := mt (i_le (a := n) (b := lim) (by omega) (by omega)).mpr (of_decide_eq_false c7)
        refine Pv.aload rfl rfl ?_
        refine Pv.getI (z := Int32.ofNat q) rfl rfl ((fp_ne (Or.inr (by decide))).trans ((fp_ne (Or.inr (by decide))).trans (fp_eq))) ?_
        refine Pv.aload rfl rfl ?_
        refine Pv.getI (z := Int32.ofNat lim) rfl rfl ((fp_ne (Or.inr (by decide))).trans ((fp_ne (Or.inr (by decide))).trans ((fp_ne (Or.inr (by decide))).trans (h5)))) ?_
        refine Pv.icmp rfl (fun c16 => ?_) (fun c16 => ?_)
        · skip
          replace c16 := (i_lt (a := q) (b := lim) (by omega) (by omega)).mp (of_decide_eq_true c16)
          have hlim : ¬ (lim < n ∧ lim ≤ q) := by omega
          refine Pv.aload rfl rfl ?_
          refine Pv.callVI (as := [.ref 69]) (rest := []) (z := pkw F n q) rfl rfl rfl (g_peek (F0 := F) (p := q) (n := n) (hG.fx (P := fun _ => True) (((((FX.rf (P := fun _ => True))).fp trivial).fp trivial).fp trivial)) ((fp_ne (Or.inr (by decide))).trans ((fp_ne (Or.inr (by decide))).trans (fp_eq))) ((fp_ne (Or.inr (by decide))).trans ((fp_ne (Or.inr (by decide))).trans ((fp_ne (Or.inr (by decide))).trans (h3)))) (by omega) (by omega) (fun q => (fp_ne (Or.inl (by decide))).trans ((fp_ne (Or.inl (by decide))).trans (fp_ne (Or.inl (by decide)))))) ?_
          refine Pv.istore (lo' := [some (.ref 69), some (.int (pkw F n q)), none, none]) rfl rfl ?_
          refine Pv.iload rfl rfl ?_
          refine Pv.if0 rfl (fun c17 => ?_) (fun c17 => ?_)
          · skip
            replace c17 := of_decide_eq_true c17
            refine Pv.iload rfl rfl ?_
            refine Pv.callI (as := [.int (pkw F n q)]) (rest := []) (z := b2i (smL (pkw F n q))) rfl rfl rfl (g_isSmall (pkw F n q)) ?_
            refine Pv.if0 rfl (fun c18 => ?_) (fun c18 => ?_)
            · skip
              replace c18 : decide (b2i (smL (pkw F n q)) = 0) = false := by simpa using c18
              replace c18 := of_decide_eq_false c18
              replace c18 := b2n.mp c18
              refine Pv.iload rfl rfl ?_
              refine Pv.callI (as := [.int (pkw F n q)]) (rest := []) (z := b2i (smL (pkw F n q))) rfl rfl rfl (g_isSmall (pkw F n q)) ?_
              refine Pv.istore (lo' := [some (.ref 69), some (.int (pkw F n q)), some (.int (b2i (smL (pkw F n q)))), none]) rfl rfl ?_
              refine Pv.lit rfl ?_
              refine Pv.istore (lo' := [some (.ref 69), some (.int (pkw F n q)), some (.int (b2i (smL (pkw F n q)))), some (.int 1)]) rfl rfl ?_
              refine Pv.aload rfl rfl ?_
              refine Pv.lit rfl ?_
              refine Pv.putL rfl rfl ?_
              refine Pv.aload rfl rfl ?_
              refine Pv.lit rfl ?_
              refine Pv.putI rfl rfl ?_
              have hq2 := sm_t c18
              have hfr : tk_r ((RBF F n) q) = true := tk_r_l hq2.2
              have hq1 : q < n := hq2.1
              refine (g_nx181 (F0 := F) (q := q) (n := n) (sm := smL (pkw F n q)) (hG.fx (P := fun _ => True) (((((((FX.rf (P := fun _ => True))).fp trivial).fp trivial).fp trivial).fpl trivial).fp trivial)) (RNX.fp (RNX.fl (RNX.fp (RNX.fp (RNX.fp RNX.rf (Or.inl rfl)) (Or.inr (Or.inr (Or.inl rfl)))) (Or.inr (Or.inr (Or.inr (Or.inl rfl)))))) (Or.inr (Or.inr (Or.inr (Or.inr rfl))))) (fun k => (fp_ne (Or.inl (by decide))).trans ((fpl_i).trans ((fp_ne (Or.inl (by decide))).trans ((fp_ne (Or.inl (by decide))).trans (fp_ne (Or.inl (by decide))))))) ((fp_ne (Or.inr (by decide))).trans ((fpl_i).trans ((fp_ne (Or.inr (by decide))).trans ((fp_ne (Or.inr (by decide))).trans ((fp_ne (Or.inr (by decide))).trans (h3)))))) ((fp_ne (Or.inr (by decide))).trans ((fpl_i).trans ((fp_ne (Or.inr (by decide))).trans ((fp_ne (Or.inr (by decide))).trans (fp_eq))))) ((fp_ne (Or.inr (by decide))).trans ((fpl_i).trans ((fp_ne (Or.inr (by decide))).trans (fp_eq)))) ((fp_ne (Or.inr (by decide))).trans ((fpl_i).trans (fp_eq))) (fp_eq) ((fp_l).trans (fpl_eq)) hn hq1 (by rw [cls_eq _ hfr, sm_eq hq1]; exact beq_self_eq_true _) hfr _ _).imp (fun r F' h => ?_)
              rw [hQ, ht, tkq_run hlim hq1 hfr]
              exact h
            · skip
              replace c18 : decide (b2i (smL (pkw F n q)) = 0) = true := by simpa using c18
              replace c18 := of_decide_eq_true c18
              replace c18 := b2z.mp c18
              refine Pv.iload rfl rfl ?_
              refine Pv.callI (as := [.int (pkw F n q)]) (rest := []) (z := b2i (dgL (pkw F n q))) rfl rfl rfl (g_isDigit (pkw F n q)) ?_
              refine Pv.if0 rfl (fun c19 => ?_) (fun c19 => ?_)
              · skip
                replace c19 : decide (b2i (dgL (pkw F n q)) = 0) = false := by simpa using c19
                replace c19 := of_decide_eq_false c19
                replace c19 := b2n.mp c19
                refine Pv.iload rfl rfl ?_
                refine Pv.callI (as := [.int (pkw F n q)]) (rest := []) (z := b2i (smL (pkw F n q))) rfl rfl rfl (g_isSmall (pkw F n q)) ?_
                refine Pv.istore (lo' := [some (.ref 69), some (.int (pkw F n q)), some (.int (b2i (smL (pkw F n q)))), none]) rfl rfl ?_
                refine Pv.lit rfl ?_
                refine Pv.istore (lo' := [some (.ref 69), some (.int (pkw F n q)), some (.int (b2i (smL (pkw F n q)))), some (.int 1)]) rfl rfl ?_
                refine Pv.aload rfl rfl ?_
                refine Pv.lit rfl ?_
                refine Pv.putL rfl rfl ?_
                refine Pv.aload rfl rfl ?_
                refine Pv.lit rfl ?_
                refine Pv.putI rfl rfl ?_
                have hq2 := dg_t c19
                have hfr : tk_r ((RBF F n) q) = true := tk_r_d hq2.2
                have hq1 : q < n := hq2.1
                refine (g_nx181 (F0 := F) (q := q) (n := n) (sm := smL (pkw F n q)) (hG.fx (P := fun _ => True) (((((((FX.rf (P := fun _ => True))).fp trivial).fp trivial).fp trivial).fpl trivial).fp trivial)) (RNX.fp (RNX.fl (RNX.fp (RNX.fp (RNX.fp RNX.rf (Or.inl rfl)) (Or.inr (Or.inr (Or.inl rfl)))) (Or.inr (Or.inr (Or.inr (Or.inl rfl)))))) (Or.inr (Or.inr (Or.inr (Or.inr rfl))))) (fun k => (fp_ne (Or.inl (by decide))).trans ((fpl_i).trans ((fp_ne (Or.inl (by decide))).trans ((fp_ne (Or.inl (by decide))).trans (fp_ne (Or.inl (by decide))))))) ((fp_ne (Or.inr (by decide))).trans ((fpl_i).trans ((fp_ne (Or.inr (by decide))).trans ((fp_ne (Or.inr (by decide))).trans ((fp_ne (Or.inr (by decide))).trans (h3)))))) ((fp_ne (Or.inr (by decide))).trans ((fpl_i).trans ((fp_ne (Or.inr (by decide))).trans ((fp_ne (Or.inr (by decide))).trans (fp_eq))))) ((fp_ne (Or.inr (by decide))).trans ((fpl_i).trans ((fp_ne (Or.inr (by decide))).trans (fp_eq)))) ((fp_ne (Or.inr (by decide))).trans ((fpl_i).trans (fp_eq))) (fp_eq) ((fp_l).trans (fpl_eq)) hn hq1 (by rw [cls_eq _ hfr, sm_eq hq1]; exact beq_self_eq_true _) hfr _ _).imp (fun r F' h => ?_)
                rw [hQ, ht, tkq_run hlim hq1 hfr]
                exact h
              · skip
                replace c19 : decide (b2i (dgL (pkw F n q)) = 0) = true := by simpa using c19
                replace c19 := of_decide_eq_true c19
                replace c19 := b2z.mp c19
                refine Pv.aload rfl rfl ?_
                refine Pv.iload rfl rfl ?_
                refine Pv.lit rfl ?_
                refine Pv.icmp rfl (fun c20 => ?_) (fun c20 => ?_)
                · skip
                  replace c20 := of_decide_eq_true c20
                  refine Pv.lit rfl ?_
                  refine Pv.goto rfl ?_
                  refine Pv.putI rfl rfl ?_
                  refine Pv.aload rfl rfl ?_
                  refine Pv.iload rfl rfl ?_
                  refine Pv.putI rfl rfl ?_
                  refine Pv.aload rfl rfl ?_
                  refine Pv.dup rfl ?_
                  refine Pv.getI (z := Int32.ofNat q) rfl rfl ((fp_ne (Or.inr (by decide))).trans ((fp_ne (Or.inr (by decide))).trans ((fp_ne (Or.inr (by decide))).trans ((fp_ne (Or.inr (by decide))).trans (fp_eq))))) ?_
                  refine Pv.lit rfl ?_
                  refine Pv.bin (z := Int32.ofNat (q + 1)) rfl (i_add q 1) ?_
                  refine Pv.putI rfl rfl ?_
                  have hq1 := pkw_pos c17
                  have hr0 : tk_r ((RBF F n) q) = false := tk_r_f (sm_f hq1 c18) (dg_f hq1 c19)
                  have sg := sg_y hq1 c20 (Or.inl rfl)
                  have TK := ht.trans (tkq_sig hlim hq1 hr0)
                  exact Pv.vret rfl (by rw [hQ]; exact ⟨rfl, (RNX.fp (RNX.fp (RNX.fp (RNX.fp (RNX.fp (RNX.fp RNX.rf (Or.inl rfl)) (Or.inr (Or.inr (Or.inl rfl)))) (Or.inr (Or.inr (Or.inr (Or.inl rfl))))) (Or.inr (Or.inl rfl))) (Or.inr (Or.inr (Or.inr (Or.inr rfl))))) (Or.inl rfl)), by rw [TK]; exact ⟨(congrArg Int32.toInt ((fp_ne (Or.inr (by decide))).trans ((fp_ne (Or.inr (by decide))).trans ((fp_ne (Or.inr (by decide))).trans ((fp_ne (Or.inr (by decide))).trans (fp_eq)))))).trans (i_toInt (by omega)), fp_eq, (congrArg Int32.toInt ((fp_ne (Or.inr (by decide))).trans ((fp_ne (Or.inr (by decide))).trans (fp_eq)))).trans ((show (3 : Int32).toInt = rkk (tsg ((RBF F n) q)) by rw [sg.1, sg.2]; rfl)), fun e => absurd e (by show rkk (tsg ((RBF F n) q)) ≠ 2; rw [sg.1, sg.2]; decide), fun _ => (congrArg Int32.toInt ((fp_ne (Or.inr (by decide))).trans (fp_eq))).trans (show (pkw F n q).toInt = tsg ((RBF F n) q) by rw [sg.1, pkw_to hq1]), fun e => absurd e (by show rkk (tsg ((RBF F n) q)) ≠ 1; rw [sg.1, sg.2]; decide)⟩⟩)
                · skip
                  replace c20 := of_decide_eq_false c20
                  refine Pv.iload rfl rfl ?_
                  refine Pv.lit rfl ?_
                  refine Pv.icmp rfl (fun c21 => ?_) (fun c21 => ?_)
                  · skip
                    replace c21 := of_decide_eq_true c21
                    refine Pv.lit rfl ?_
                    refine Pv.goto rfl ?_
                    refine Pv.putI rfl rfl ?_
                    refine Pv.aload rfl rfl ?_
                    refine Pv.iload rfl rfl ?_
                    refine Pv.putI rfl rfl ?_
                    refine Pv.aload rfl rfl ?_
                    refine Pv.dup rfl ?_
                    refine Pv.getI (z := Int32.ofNat q) rfl rfl ((fp_ne (Or.inr (by decide))).trans ((fp_ne (Or.inr (by decide))).trans ((fp_ne (Or.inr (by decide))).trans ((fp_ne (Or.inr (by decide))).trans (fp_eq))))) ?_
                    refine Pv.lit rfl ?_
                    refine Pv.bin (z := Int32.ofNat (q + 1)) rfl (i_add q 1) ?_
                    refine Pv.putI rfl rfl ?_
                    have hq1 := pkw_pos c17
                    have hr0 : tk_r ((RBF F n) q) = false := tk_r_f (sm_f hq1 c18) (dg_f hq1 c19)
                    have sg := sg_y hq1 c21 (Or.inr (Or.inl rfl))
                    have TK := ht.trans (tkq_sig hlim hq1 hr0)
                    exact Pv.vret rfl (by rw [hQ]; exact ⟨rfl, (RNX.fp (RNX.fp (RNX.fp (RNX.fp (RNX.fp (RNX.fp RNX.rf (Or.inl rfl)) (Or.inr (Or.inr (Or.inl rfl)))) (Or.inr (Or.inr (Or.inr (Or.inl rfl))))) (Or.inr (Or.inl rfl))) (Or.inr (Or.inr (Or.inr (Or.inr rfl))))) (Or.inl rfl)), by rw [TK]; exact ⟨(congrArg Int32.toInt ((fp_ne (Or.inr (by decide))).trans ((fp_ne (Or.inr (by decide))).trans ((fp_ne (Or.inr (by decide))).trans ((fp_ne (Or.inr (by decide))).trans (fp_eq)))))).trans (i_toInt (by omega)), fp_eq, (congrArg Int32.toInt ((fp_ne (Or.inr (by decide))).trans ((fp_ne (Or.inr (by decide))).trans (fp_eq)))).trans ((show (3 : Int32).toInt = rkk (tsg ((RBF F n) q)) by rw [sg.1, sg.2]; rfl)), fun e => absurd e (by show rkk (tsg ((RBF F n) q)) ≠ 2; rw [sg.1, sg.2]; decide), fun _ => (congrArg Int32.toInt ((fp_ne (Or.inr (by decide))).trans (fp_eq))).trans (show (pkw F n q).toInt = tsg ((RBF F n) q) by rw [sg.1, pkw_to hq1]), fun e => absurd e (by show rkk (tsg ((RBF F n) q)) ≠ 1; rw [sg.1, sg.2]; decide)⟩⟩)
                  · skip
                    replace c21 := of_decide_eq_false c21
                    refine Pv.iload rfl rfl ?_
                    refine Pv.lit rfl ?_
                    refine Pv.icmp rfl (fun c22 => ?_) (fun c22 => ?_)
                    · skip
                      replace c22 := of_decide_eq_true c22
                      refine Pv.lit rfl ?_
                      refine Pv.goto rfl ?_
                      refine Pv.putI rfl rfl ?_
                      refine Pv.aload rfl rfl ?_
                      refine Pv.iload rfl rfl ?_
                      refine Pv.putI rfl rfl ?_
                      refine Pv.aload rfl rfl ?_
                      refine Pv.dup rfl ?_
                      refine Pv.getI (z := Int32.ofNat q) rfl rfl ((fp_ne (Or.inr (by decide))).trans ((fp_ne (Or.inr (by decide))).trans ((fp_ne (Or.inr (by decide))).trans ((fp_ne (Or.inr (by decide))).trans (fp_eq))))) ?_
                      refine Pv.lit rfl ?_
                      refine Pv.bin (z := Int32.ofNat (q + 1)) rfl (i_add q 1) ?_
                      refine Pv.putI rfl rfl ?_
                      have hq1 := pkw_pos c17
                      have hr0 : tk_r ((RBF F n) q) = false := tk_r_f (sm_f hq1 c18) (dg_f hq1 c19)
                      have sg := sg_y hq1 c22 (Or.inr (Or.inr (Or.inl rfl)))
                      have TK := ht.trans (tkq_sig hlim hq1 hr0)
                      exact Pv.vret rfl (by rw [hQ]; exact ⟨rfl, (RNX.fp (RNX.fp (RNX.fp (RNX.fp (RNX.fp (RNX.fp RNX.rf (Or.inl rfl)) (Or.inr (Or.inr (Or.inl rfl)))) (Or.inr (Or.inr (Or.inr (Or.inl rfl))))) (Or.inr (Or.inl rfl))) (Or.inr (Or.inr (Or.inr (Or.inr rfl))))) (Or.inl rfl)), by rw [TK]; exact ⟨(congrArg Int32.toInt ((fp_ne (Or.inr (by decide))).trans ((fp_ne (Or.inr (by decide))).trans ((fp_ne (Or.inr (by decide))).trans ((fp_ne (Or.inr (by decide))).trans (fp_eq)))))).trans (i_toInt (by omega)), fp_eq, (congrArg Int32.toInt ((fp_ne (Or.inr (by decide))).trans ((fp_ne (Or.inr (by decide))).trans (fp_eq)))).trans ((show (3 : Int32).toInt = rkk (tsg ((RBF F n) q)) by rw [sg.1, sg.2]; rfl)), fun e => absurd e (by show rkk (tsg ((RBF F n) q)) ≠ 2; rw [sg.1, sg.2]; decide), fun _ => (congrArg Int32.toInt ((fp_ne (Or.inr (by decide))).trans (fp_eq))).trans (show (pkw F n q).toInt = tsg ((RBF F n) q) by rw [sg.1, pkw_to hq1]), fun e => absurd e (by show rkk (tsg ((RBF F n) q)) ≠ 1; rw [sg.1, sg.2]; decide)⟩⟩)
                    · skip
                      replace c22 := of_decide_eq_false c22
                      refine Pv.iload rfl rfl ?_
                      refine Pv.lit rfl ?_
                      refine Pv.icmp rfl (fun c23 => ?_) (fun c23 => ?_)
                      · skip
                        replace c23 := of_decide_eq_true c23
                        refine Pv.lit rfl ?_
                        refine Pv.putI rfl rfl ?_
                        refine Pv.aload rfl rfl ?_
                        refine Pv.iload rfl rfl ?_
                        refine Pv.putI rfl rfl ?_
                        refine Pv.aload rfl rfl ?_
                        refine Pv.dup rfl ?_
                        refine Pv.getI (z := Int32.ofNat q) rfl rfl ((fp_ne (Or.inr (by decide))).trans ((fp_ne (Or.inr (by decide))).trans ((fp_ne (Or.inr (by decide))).trans ((fp_ne (Or.inr (by decide))).trans (fp_eq))))) ?_
                        refine Pv.lit rfl ?_
                        refine Pv.bin (z := Int32.ofNat (q + 1)) rfl (i_add q 1) ?_
                        refine Pv.putI rfl rfl ?_
                        have hq1 := pkw_pos c17
                        have hr0 : tk_r ((RBF F n) q) = false := tk_r_f (sm_f hq1 c18) (dg_f hq1 c19)
                        have sg := sg_n hq1 c20 c21 c22 (Or.inl c23)
                        have TK := ht.trans (tkq_sig hlim hq1 hr0)
                        exact Pv.vret rfl (by rw [hQ]; exact ⟨rfl, (RNX.fp (RNX.fp (RNX.fp (RNX.fp (RNX.fp (RNX.fp RNX.rf (Or.inl rfl)) (Or.inr (Or.inr (Or.inl rfl)))) (Or.inr (Or.inr (Or.inr (Or.inl rfl))))) (Or.inr (Or.inl rfl))) (Or.inr (Or.inr (Or.inr (Or.inr rfl))))) (Or.inl rfl)), by rw [TK]; exact ⟨(congrArg Int32.toInt ((fp_ne (Or.inr (by decide))).trans ((fp_ne (Or.inr (by decide))).trans ((fp_ne (Or.inr (by decide))).trans ((fp_ne (Or.inr (by decide))).trans (fp_eq)))))).trans (i_toInt (by omega)), fp_eq, (congrArg Int32.toInt ((fp_ne (Or.inr (by decide))).trans ((fp_ne (Or.inr (by decide))).trans (fp_eq)))).trans ((show (4 : Int32).toInt = rkk (tsg ((RBF F n) q)) by rw [sg]; rfl)), fun e => absurd e (by show rkk (tsg ((RBF F n) q)) ≠ 2; rw [sg]; decide), fun e => absurd e (by show rkk (tsg ((RBF F n) q)) ≠ 3; rw [sg]; decide), fun e => absurd e (by show rkk (tsg ((RBF F n) q)) ≠ 1; rw [sg]; decide)⟩⟩)
                      · skip
                        replace c23 := of_decide_eq_false c23
                        refine Pv.iload rfl rfl ?_
                        refine Pv.lit rfl ?_
                        refine Pv.icmp rfl (fun c24 => ?_) (fun c24 => ?_)
                        · skip
                          replace c24 := of_decide_eq_true c24
                          refine Pv.lit rfl ?_
                          refine Pv.putI rfl rfl ?_
                          refine Pv.aload rfl rfl ?_
                          refine Pv.iload rfl rfl ?_
                          refine Pv.putI rfl rfl ?_
                          refine Pv.aload rfl rfl ?_
                          refine Pv.dup rfl ?_
                          refine Pv.getI (z := Int32.ofNat q) rfl rfl ((fp_ne (Or.inr (by decide))).trans ((fp_ne (Or.inr (by decide))).trans ((fp_ne (Or.inr (by decide))).trans ((fp_ne (Or.inr (by decide))).trans (fp_eq))))) ?_
                          refine Pv.lit rfl ?_
                          refine Pv.bin (z := Int32.ofNat (q + 1)) rfl (i_add q 1) ?_
                          refine Pv.putI rfl rfl ?_
                          have hq1 := pkw_pos c17
                          have hr0 : tk_r ((RBF F n) q) = false := tk_r_f (sm_f hq1 c18) (dg_f hq1 c19)
                          have sg := sg_n hq1 c20 c21 c22 (Or.inr c24)
                          have TK := ht.trans (tkq_sig hlim hq1 hr0)
                          exact Pv.vret rfl (by rw [hQ]; exact ⟨rfl, (RNX.fp (RNX.fp (RNX.fp (RNX.fp (RNX.fp (RNX.fp RNX.rf (Or.inl rfl)) (Or.inr (Or.inr (Or.inl rfl)))) (Or.inr (Or.inr (Or.inr (Or.inl rfl))))) (Or.inr (Or.inl rfl))) (Or.inr (Or.inr (Or.inr (Or.inr rfl))))) (Or.inl rfl)), by rw [TK]; exact ⟨(congrArg Int32.toInt ((fp_ne (Or.inr (by decide))).trans ((fp_ne (Or.inr (by decide))).trans ((fp_ne (Or.inr (by decide))).trans ((fp_ne (Or.inr (by decide))).trans (fp_eq)))))).trans (i_toInt (by omega)), fp_eq, (congrArg Int32.toInt ((fp_ne (Or.inr (by decide))).trans ((fp_ne (Or.inr (by decide))).trans (fp_eq)))).trans ((show (4 : Int32).toInt = rkk (tsg ((RBF F n) q)) by rw [sg]; rfl)), fun e => absurd e (by show rkk (tsg ((RBF F n) q)) ≠ 2; rw [sg]; decide), fun e => absurd e (by show rkk (tsg ((RBF F n) q)) ≠ 3; rw [sg]; decide), fun e => absurd e (by show rkk (tsg ((RBF F n) q)) ≠ 1; rw [sg]; decide)⟩⟩)
                        · skip
                          replace c24 := of_decide_eq_false c24
                          refine Pv.lit rfl ?_
                          refine Pv.goto rfl ?_
                          refine Pv.putI rfl rfl ?_
                          refine Pv.aload rfl rfl ?_
                          refine Pv.iload rfl rfl ?_
                          refine Pv.putI rfl rfl ?_
                          refine Pv.aload rfl rfl ?_
                          refine Pv.dup rfl ?_
                          refine Pv.getI (z := Int32.ofNat q) rfl rfl ((fp_ne (Or.inr (by decide))).trans ((fp_ne (Or.inr (by decide))).trans ((fp_ne (Or.inr (by decide))).trans ((fp_ne (Or.inr (by decide))).trans (fp_eq))))) ?_
                          refine Pv.lit rfl ?_
                          refine Pv.bin (z := Int32.ofNat (q + 1)) rfl (i_add q 1) ?_
                          refine Pv.putI rfl rfl ?_
                          have hq1 := pkw_pos c17
                          have hr0 : tk_r ((RBF F n) q) = false := tk_r_f (sm_f hq1 c18) (dg_f hq1 c19)
                          have sg := sg_3 hq1 c23 c24
                          have TK := ht.trans (tkq_sig hlim hq1 hr0)
                          exact Pv.vret rfl (by rw [hQ]; exact ⟨rfl, (RNX.fp (RNX.fp (RNX.fp (RNX.fp (RNX.fp (RNX.fp RNX.rf (Or.inl rfl)) (Or.inr (Or.inr (Or.inl rfl)))) (Or.inr (Or.inr (Or.inr (Or.inl rfl))))) (Or.inr (Or.inl rfl))) (Or.inr (Or.inr (Or.inr (Or.inr rfl))))) (Or.inl rfl)), by rw [TK]; exact ⟨(congrArg Int32.toInt ((fp_ne (Or.inr (by decide))).trans ((fp_ne (Or.inr (by decide))).trans ((fp_ne (Or.inr (by decide))).trans ((fp_ne (Or.inr (by decide))).trans (fp_eq)))))).trans (i_toInt (by omega)), fp_eq, (congrArg Int32.toInt ((fp_ne (Or.inr (by decide))).trans ((fp_ne (Or.inr (by decide))).trans (fp_eq)))).trans ((show (3 : Int32).toInt = rkk (tsg ((RBF F n) q)) by rw [sg.1, sg.2]; rfl)), fun e => absurd e (by show rkk (tsg ((RBF F n) q)) ≠ 2; rw [sg.1, sg.2]; decide), fun _ => (congrArg Int32.toInt ((fp_ne (Or.inr (by decide))).trans (fp_eq))).trans (show (pkw F n q).toInt = tsg ((RBF F n) q) by rw [sg.1, pkw_to hq1]), fun e => absurd e (by show rkk (tsg ((RBF F n) q)) ≠ 1; rw [sg.1, sg.2]; decide)⟩⟩)
          · skip
            replace c17 := of_decide_eq_false c17
            refine Pv.aload rfl rfl ?_
            refine Pv.lit rfl ?_
            refine Pv.putI rfl rfl ?_
            have hnq : q = n := by have := pkw_neg c17; omega
            have TK := ht.trans (tkq_end hlim (by omega))
            exact Pv.vret rfl (by rw [hQ]; exact ⟨rfl, (RNX.fp (RNX.fp (RNX.fp (RNX.fp RNX.rf (Or.inl rfl)) (Or.inr (Or.inr (Or.inl rfl)))) (Or.inr (Or.inr (Or.inr (Or.inl rfl))))) (Or.inr (Or.inl rfl))), by rw [TK]; exact ⟨(congrArg Int32.toInt ((fp_ne (Or.inr (by decide))).trans ((fp_ne (Or.inr (by decide))).trans (fp_eq)))).trans ((i_toInt (by omega)).trans (congrArg Int.ofNat hnq)), (fp_ne (Or.inr (by decide))).trans ((fp_ne (Or.inr (by decide))).trans ((fp_ne (Or.inr (by decide))).trans (fp_eq))), (congrArg Int32.toInt (fp_eq)).trans (rfl), fun e => absurd e (by show rkk 0 ≠ 2; decide), fun e => absurd e (by show rkk 0 ≠ 3; decide), fun e => absurd e (by show rkk 0 ≠ 1; decide)⟩⟩)
        · skip
          replace c16 := mt (i_lt (a := q) (b := lim) (by omega) (by omega)).mpr (of_decide_eq_false c16)
          refine Pv.aload rfl rfl ?_
          refine Pv.aload rfl rfl ?_
          refine Pv.getI (z := Int32.ofNat lim) rfl rfl ((fp_ne (Or.inr (by decide))).trans ((fp_ne (Or.inr (by decide))).trans ((fp_ne (Or.inr (by decide))).trans (h5)))) ?_
          refine Pv.putI rfl rfl ?_
          refine Pv.aload rfl rfl ?_
          refine Pv.lit rfl ?_
          refine Pv.putI rfl rfl ?_
          have TK := ht.trans (tkq_none (by omega) (by omega))
          exact Pv.vret rfl (by rw [hQ]; exact ⟨rfl, (RNX.fp (RNX.fp (RNX.fp (RNX.fp (RNX.fp RNX.rf (Or.inl rfl)) (Or.inr (Or.inr (Or.inl rfl)))) (Or.inr (Or.inr (Or.inr (Or.inl rfl))))) (Or.inr (Or.inr (Or.inl rfl)))) (Or.inr (Or.inl rfl))), by rw [TK]; exact ⟨(congrArg Int32.toInt ((fp_ne (Or.inr (by decide))).trans (fp_eq))).trans (i_toInt (by omega)), (fp_ne (Or.inr (by decide))).trans ((fp_ne (Or.inr (by decide))).trans ((fp_ne (Or.inr (by decide))).trans ((fp_ne (Or.inr (by decide))).trans (fp_eq)))), (congrArg Int32.toInt (fp_eq)).trans (rfl), fun e => absurd e (by show rkk 1 ≠ 2; decide), fun e => absurd e (by show rkk 1 ≠ 3; decide), fun e => absurd e (by show rkk 1 ≠ 1; decide)⟩⟩)
    · skip
      replace c6 : decide (pkw F n q = 10) = true := by simpa using c6
      replace c6 := of_decide_eq_true c6
      have hqy := pkw_in c6 (by decide)
      have hby : tk_b ((RBF F n) q) = true := by rw [hqy.2]; decide
      refine Pv.aload rfl rfl ?_
      refine Pv.dup rfl ?_
      refine Pv.getI (z := Int32.ofNat q) rfl rfl (fp_eq) ?_
      refine Pv.lit rfl ?_
      refine Pv.bin (z := Int32.ofNat (q + 1)) rfl (i_add q 1) ?_
      refine Pv.putI rfl rfl ?_
      refine Pv.goto rfl ?_
      refine Pv.fE (G := fp F 69 4 (Int32.ofNat (q + 1))) (fp_fp) ?_
      exact ih4 (q + 1) (⟨by omega, by omega, (tk_go hqy.1 hby).symm.trans hrun⟩)
