set_option maxRecDepth 100000 in
set_option maxHeartbeats 4000000 in
theorem c_clear {F : FW} {r : Nat} (hO : O7 F r) (hL : F.2.2.2.2 (r + 4) = 48) : Pm Z_X7_clear [.ref r] F (fun r' F' => r' = none ∧ FX (fun q => r ≤ q ∧ q ≤ r + 7) F F' ∧ SCF F' r s0) := by
  refine Pm.of fun N => ?_
  obtain ⟨Q, hQ⟩ : ∃ Q : Option Value → FW → Prop, Q = (fun r' F' => r' = none ∧ FX (fun q => r ≤ q ∧ q ≤ r + 7) F F' ∧ SCF F' r s0) := ⟨_, rfl⟩
  rw [← hQ]
  refine (show Pv (ab_T L_X7_clear) N 0 [some (.ref r), none] [] F Q from ?_)
  refine Pv.lit rfl ?_
  refine Pv.istore (lo' := [some (.ref r), some (.int 0)]) rfl rfl ?_
  refine Pv.lp (ι := Nat × FW) (lof := fun ⟨k, G⟩ => [some (.ref r), some (.int (Int32.ofNat k))]) (Ff := fun ⟨k, G⟩ => G) (P := fun ⟨k, G⟩ => (k ≤ 48) ∧ (FX (fun q => q = r + 4) F G) ∧ (∀ j, j < k → G.1 (r + 4) j = 0)) ?_ (0, F) (⟨Nat.zero_le _, FX.rf, fun j hj => absurd hj (Nat.not_lt_zero j)⟩)
  rintro N1 hN2 ⟨k, G⟩ hi3 ih4
  refine (show Pv _ _ 2 [some (.ref r), some (.int (Int32.ofNat k))] [] G Q from ?_)
  obtain ⟨hk, hx, hz⟩ := hi3
  refine Pv.iloadS rfl rfl ?_
  refine Pv.aload rfl rfl ?_
  refine Pv.getR (v := .ref (r + 4)) rfl rfl ((FX.O7 (P := fun q => q = r + 4) hx hO) 3 (by decide)) ?_
  refine Pv.alen rfl ?_
  rw [show G.2.2.2.2 (r + 4) = 48 by rw [hx.2.2.2]; exact hL]
  refine Pv.icmp rfl (fun c5 => ?_) (fun c5 => ?_)
  · skip
    replace c5 := (i_le (a := 48) (b := k) (by omega) (by omega)).mp (of_decide_eq_true c5)
    refine Pv.aload rfl rfl ?_
    refine Pv.lit rfl ?_
    refine Pv.putI rfl rfl ?_
    refine Pv.aload rfl rfl ?_
    refine Pv.lit rfl ?_
    refine Pv.putI rfl rfl ?_
    refine Pv.aload rfl rfl ?_
    refine Pv.lit rfl ?_
    refine Pv.putI rfl rfl ?_
    refine Pv.aload rfl rfl ?_
    refine Pv.lit rfl ?_
    refine Pv.putI rfl rfl ?_
    refine Pv.aload rfl rfl ?_
    refine Pv.lit rfl ?_
    refine Pv.putI rfl rfl ?_
    refine Pv.aload rfl rfl ?_
    refine Pv.lit rfl ?_
    refine Pv.putL rfl rfl ?_
    exact Pv.vret rfl (by rw [hQ]; exact ⟨rfl, (((((((hx.wd (P' := fun q => r ≤ q ∧ q ≤ r + 7) (fun q (c : q = r + 4) => by omega)).fp (show r ≤ r ∧ r ≤ r + 7 by omega)).fp (show r ≤ r ∧ r ≤ r + 7 by omega)).fp (show r ≤ r ∧ r ≤ r + 7 by omega)).fp (show r ≤ r ∧ r ≤ r + 7 by omega)).fp (show r ≤ r ∧ r ≤ r + 7 by omega)).fpl (show r ≤ r ∧ r ≤ r + 7 by omega)), SCF.s0 (show O7 G r from FX.O7 (P := fun q => q = r + 4) hx hO) ((fpl_i).trans ((fp_ne (Or.inr (by decide))).trans ((fp_ne (Or.inr (by decide))).trans ((fp_ne (Or.inr (by decide))).trans ((fp_ne (Or.inr (by decide))).trans (fp_eq)))))) ((fpl_i).trans ((fp_ne (Or.inr (by decide))).trans ((fp_ne (Or.inr (by decide))).trans ((fp_ne (Or.inr (by decide))).trans (fp_eq))))) ((fpl_i).trans ((fp_ne (Or.inr (by decide))).trans ((fp_ne (Or.inr (by decide))).trans (fp_eq)))) ((fpl_i).trans ((fp_ne (Or.inr (by decide))).trans (fp_eq))) ((fpl_i).trans (fp_eq)) (fpl_eq) (fun j hj => (fpl_i).trans ((fp_ne (Or.inl (by omega))).trans ((fp_ne (Or.inl (by omega))).trans ((fp_ne (Or.inl (by omega))).trans ((fp_ne (Or.inl (by omega))).trans ((fp_ne (Or.inl (by omega))).trans (hz j (by omega))))))))⟩)
  · skip
    replace c5 := mt (i_le (a := 48) (b := k) (by omega) (by omega)).mpr (of_decide_eq_false c5)
    refine Pv.aload rfl rfl ?_
    refine Pv.getR (v := .ref (r + 4)) rfl rfl ((FX.O7 (P := fun q => q = r + 4) hx hO) 3 (by decide)) ?_
    refine Pv.iload rfl rfl ?_
    refine Pv.lit rfl ?_
    refine Pv.astk (k := k) (z := 0) rfl (i_toNat (by omega)) (rfl) ?_
    refine Pv.iinc (y := Int32.ofNat (k + 1)) (lo' := [some (.ref r), some (.int (Int32.ofNat (k + 1)))]) rfl rfl (i_add k 1) rfl ?_
    refine Pv.goto rfl ?_
    exact ih4 (k + 1, (fp G (r + 4) k 0)) (⟨by omega, hx.fp rfl, fun j hj => Or.elim (Classical.em (j = k)) (fun e => by rw [e]; exact fp_eq) (fun e => (fp_ne (Or.inr e)).trans (hz j (by omega)))⟩)
set_option maxRecDepth 100000 in
set_option maxHeartbeats 4000000 in
theorem c_rtext {F : FW} {K : Nat → TT} {mz r : Nat} (hG : GW F) (hT : TKF F K mz) (h4 : F.1 3 4 = Int32.ofNat 0) (h9 : F.1 3 9 = 0) (hr : 40 ≤ r) (hO : O7 F r) (hL : F.2.2.2.2 (r + 4) = 48) : Pm Z_X7_readText [.ref r, .ref 3] F (fun r' F' => CTQ F F' K r r') := by
  refine Pm.of fun N => ?_
  obtain ⟨Q, hQ⟩ : ∃ Q : Option Value → FW → Prop, Q = (fun r' F' => CTQ F F' K r r') := ⟨_, rfl⟩
  rw [← hQ]
  have hmb := hT.b
  refine (show Pv (ab_T (L_X7_readText Z_X7_clear Z_X9_step Z_X7_readLine Z_X9_takeSign)) N 0 [some (.ref r), some (.ref 3), none] [] F Q from ?_)
  refine Pv.aload rfl rfl ?_
  refine Pv.callV (as := [.ref r]) (rest := []) rfl rfl rfl (c_clear hO hL) ?_
  rintro _ G0 ⟨rfl, x0f, sc0⟩
  have x0 := CSX.o8 x0f hr
  have g0 := x0.G hG
  have c4 := x0f.1 3 4 (by omega)
  have c9 := x0f.1 3 9 (by omega)
  refine (show Pv _ _ 4 [some (.ref r), some (.ref 3), none] [] G0 Q from ?_)
  refine Pv.lit rfl ?_
  refine Pv.istore (lo' := [some (.ref r), some (.ref 3), some (.int 0)]) rfl rfl ?_
  refine Pv.lp (ι := Nat × Nat × PS × FW) (lof := fun ⟨l, i, s, G⟩ => [some (.ref r), some (.ref 3), some (.int (Int32.ofNat l))]) (Ff := fun ⟨l, i, s, G⟩ => G) (P := fun ⟨l, i, s, G⟩ => l ≤ i ∧ CSX r F G ∧ lns K l = some (s, i) ∧ SCF G r s ∧ G.1 3 4 = Int32.ofNat i ∧ G.1 3 9 = 0 ∧ i < mz) ?_ (0, 0, s0, G0) (⟨Nat.le_refl _, x0, rfl, sc0, c4.trans h4, c9.trans h9, by have := hT.1; omega⟩)
  rintro N1 hN2 ⟨l, i, s, G⟩ hi3 ih4
  refine (show Pv _ _ 6 [some (.ref r), some (.ref 3), some (.int (Int32.ofNat l))] [] G Q from ?_)
  obtain ⟨hli, hx, hls, hs, h4g, h9g, him⟩ := hi3
  have gG := hx.G hG
  have tG := hx.TK hr hT
  have bb := hs.b
  unfold PSB at bb
  refine Pv.iloadS rfl rfl ?_
  refine Pv.lit rfl ?_
  refine Pv.icmp rfl (fun c5 => ?_) (fun c5 => ?_)
  · skip
    replace c5 := (i_lt (a := 900) (b := l) (by omega) (by omega)).mp (of_decide_eq_true c5)
    omega
  · skip
    replace c5 := mt (i_lt (a := 900) (b := l) (by omega) (by omega)).mpr (of_decide_eq_false c5)
    refine Pv.aload rfl rfl ?_
    refine Pv.callV (as := [.ref 3]) (rest := []) rfl rfl rfl (c_step gG tG h4g him) ?_
    rintro _ G1 ⟨rfl, hd⟩
    have g1 := RCX.G hd.1 gG
    have t1 := RCX.TK hd.1 tG
    have sc1 := hs.rx hd.1 hr
    have z1 : G1.1 3 9 = 0 := (hd.ok9 rfl).trans h9g
    refine (show Pv _ _ 17 [some (.ref r), some (.ref 3), some (.int (Int32.ofNat l))] [] G1 Q from ?_)
    refine Pv.aload rfl rfl ?_
    refine Pv.getI (z := G1.1 3 5) rfl rfl (rfl) ?_
    refine Pv.if0 rfl (fun c6 => ?_) (fun c6 => ?_)
    · skip
      replace c6 : decide (G1.1 3 5 = 0) = false := by simpa using c6
      replace c6 := of_decide_eq_false c6
      have k0 : (K i).k ≠ 0 := fun e => c6 ((k_eq (x := 0) hd.2.2.1.1).mpr e)
      obtain ⟨g, hg⟩ : ∃ g : Nat, s.h 0 = (g : Int) := ⟨(s.h 0).toNat, by omega⟩
      obtain ⟨m, hm⟩ : ∃ m : Nat, s.h 1 = (m : Int) := ⟨(s.h 1).toNat, by omega⟩
      obtain ⟨q, hq⟩ : ∃ q : Nat, s.h 3 = (q : Int) := ⟨(s.h 3).toNat, by omega⟩
      refine Pv.aload rfl rfl ?_
      refine Pv.aload rfl rfl ?_
      refine Pv.callV (as := [.ref r, .ref 3]) (rest := []) rfl rfl rfl (c_rline g1 t1 hd.2.1 him k0 hr sc1 hg hm hq hd.2.2.1) ?_
      rintro r0 G2 hl
      obtain ⟨z, rfl⟩ := LCQ.i hl
      refine (show Pv _ _ 31 [some (.ref r), some (.ref 3), some (.int (Int32.ofNat l))] [.int z] G2 Q from ?_)
      refine Pv.if0 rfl (fun c7 => ?_) (fun c7 => ?_)
      · skip
        replace c7 := of_decide_eq_true c7
        obtain ⟨f, j, ex, cx, f1, f2⟩ := hl.n c7
        refine Pv.lit rfl ?_
        exact Pv.ret rfl (by rw [hQ]; exact ⟨(hx.rx hd.1).tr cx, l, i, s, hls, Or.inr ⟨f, j, _, rfl, stp_b k0 ex, BZ.x f j ex, f1, f2⟩⟩)
      · skip
        replace c7 := of_decide_eq_false c7
        obtain ⟨s', j, ex, cx, e4, e9, sc2, jm⟩ := hl.y c7
        have g2 := cx.G g1
        have t2 := cx.TK hr t1
        refine Pv.aload rfl rfl ?_
        refine Pv.lit rfl ?_
        refine Pv.callV (as := [.ref 3, .int 59]) (rest := []) rfl rfl rfl (c_takeSign g2 t2 e4 jm 59) ?_
        rintro _ G3 ⟨rfl, hd3x⟩
        have hd3 : RDC G2 G3 (K j) j (tnS (K j) 59) := hd3x
        have g3 := RCX.G hd3.1 g2
        have t3 := RCX.TK hd3.1 t2
        refine (show Pv _ _ 40 [some (.ref r), some (.ref 3), some (.int (Int32.ofNat l))] [.int (b2i (decide (tnS (K j) 59 = 0)))] G3 Q from ?_)
        refine Pv.if0 rfl (fun c8 => ?_) (fun c8 => ?_)
        · skip
          replace c8 : decide (b2i (decide (tnS (K j) 59 = 0)) = 0) = false := by simpa using c8
          replace c8 := of_decide_eq_false c8
          replace c8 := b2n.mp c8
          refine Pv.iinc (y := Int32.ofNat (l + 1)) (lo' := [some (.ref r), some (.ref 3), some (.int (Int32.ofNat (l + 1)))]) rfl rfl (i_add l 1) rfl ?_
          refine Pv.goto rfl ?_
          exact ih4 (l + 1, (j + 1), s', G3) (⟨by have := BJ.x s' j ex; omega, ((hx.rx hd.1).tr cx).rx hd3.1, lns_y hls k0 ex (tnS_k (of_decide_eq_true c8)), sc2.rx hd3.1 hr, hd3.2.1, (hd3.ok9 (of_decide_eq_true c8)).trans (e9.trans z1), t2.up jm (by rw [tnS_k (of_decide_eq_true c8)]; decide) (by rw [tnS_k (of_decide_eq_true c8)]; decide)⟩)
        · skip
          replace c8 : decide (b2i (decide (tnS (K j) 59 = 0)) = 0) = true := by simpa using c8
          replace c8 := of_decide_eq_true c8
          replace c8 := b2z.mp c8
          refine Pv.lit rfl ?_
          exact Pv.ret rfl (by rw [hQ]; exact ⟨((hx.rx hd.1).tr cx).rx hd3.1, l, i, s, hls, Or.inr ⟨1, j, _, rfl, stp_s k0 ex (tnS_n (of_decide_eq_false c8)), by decide, congrArg Int32.toInt ((hd3.bad9 (of_decide_eq_false c8)).trans (tnS_1 (of_decide_eq_false c8))), hd3.2.2.1⟩⟩)
    · skip
      replace c6 : decide (G1.1 3 5 = 0) = true := by simpa using c6
      replace c6 := of_decide_eq_true c6
      refine Pv.iload rfl rfl ?_
      exact Pv.ret rfl (by rw [hQ]; exact ⟨hx.rx hd.1, l, i, s, hls, Or.inl ⟨stp_0 ((k_eq (x := 0) hd.2.2.1.1).mp c6), rfl, sc1, z1⟩⟩)
