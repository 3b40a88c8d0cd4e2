set_option maxRecDepth 100000 in
set_option maxHeartbeats 4000000 in
theorem q_strait {F : FW} {tn : Nat} (hG : GW F) (h2 : F.1 69 2 = Int32.ofNat tn) (htn : tn ≤ 940) (hW : RWF F) : Pm Z_X11_strait [.ref 69] F (fun r F' => STW F F' tn r) := by
  refine Pm.of fun N => ?_
  obtain ⟨Q, hQ⟩ : ∃ Q : Option Value → FW → Prop, Q = (fun r F' => STW F F' tn r) := ⟨_, rfl⟩
  rw [← hQ]
  refine (show Pv (ab_T (L_X11_strait Z_X11_taken Z_X11_next Z_X11_line Z_X11_sign)) N 0 [some (.ref 69), none] [] F Q from ?_)
  refine Pv.aload rfl rfl ?_
  refine Pv.lit rfl ?_
  refine Pv.putI rfl rfl ?_
  refine Pv.aload rfl rfl ?_
  refine Pv.lit rfl ?_
  refine Pv.callV (as := [.ref 69, .int 900]) (rest := []) (Q' := (fun r F' => Pv (ab_T (L_X11_strait Z_X11_taken Z_X11_next Z_X11_line Z_X11_sign)) N 12 [some (.ref 69), none] (r.toList ++ []) F' Q)) rfl rfl rfl ?_ (fun r F' h => h)
  refine Pm.of fun N2 => ?_
  obtain ⟨Q1, hQ1⟩ : ∃ Qx : Option Value → FW → Prop, Qx = (fun r F' => Pv (ab_T (L_X11_strait Z_X11_taken Z_X11_next Z_X11_line Z_X11_sign)) N 12 [some (.ref 69), none] (r.toList ++ []) F' Q) := ⟨_, rfl⟩
  rw [← hQ1]
  refine (show Pv (ab_T L_X11_taken) N2 0 [some (.ref 69), some (.int 900)] [] (fp F 69 0 0) Q1 from ?_)
  refine Pv.aload rfl rfl ?_
  refine Pv.aload rfl rfl ?_
  refine Pv.getI (z := Int32.ofNat tn) rfl rfl ((fp_ne (Or.inr (by decide))).trans (h2)) ?_
  refine Pv.putI rfl rfl ?_
  refine Pv.aload rfl rfl ?_
  refine Pv.lit rfl ?_
  refine Pv.putI rfl rfl ?_
  refine Pv.aload rfl rfl ?_
  refine Pv.lit rfl ?_
  refine Pv.putI rfl rfl ?_
  refine Pv.aload rfl rfl ?_
  refine Pv.iload rfl rfl ?_
  refine Pv.putI rfl rfl ?_
  refine Pv.vret rfl ?_
  rw [hQ1]
  refine (show Pv (ab_T (L_X11_strait Z_X11_taken Z_X11_next Z_X11_line Z_X11_sign)) N 12 [some (.ref 69), none] [] (fp (fp (fp (fp (fp F 69 0 0) 69 3 (Int32.ofNat tn)) 69 2 0) 69 4 0) 69 5 900) Q from ?_)
  refine Pv.aload rfl rfl ?_
  refine Pv.lit rfl ?_
  refine Pv.putI rfl rfl ?_
  refine Pv.aload rfl rfl ?_
  refine Pv.lit rfl ?_
  refine Pv.putI rfl rfl ?_
  refine Pv.aload rfl rfl ?_
  refine Pv.lit rfl ?_
  refine Pv.putI rfl rfl ?_
  have sf0 : SFX F (fp (fp (fp (fp (fp (fp (fp (fp F 69 0 0) 69 3 (Int32.ofNat tn)) 69 2 0) 69 4 0) 69 5 900) 69 15 0) 69 19 0) 69 20 0) := (SFX.fp (SFX.fp (SFX.fp (SFX.fp (SFX.fp (SFX.fp (SFX.fp (SFX.fp SFX.rf (Or.inl rfl)) (Or.inr (Or.inr (Or.inl rfl)))) (Or.inr (Or.inl rfl))) (Or.inr (Or.inr (Or.inr (Or.inl rfl))))) (Or.inr (Or.inr (Or.inr (Or.inr (Or.inl rfl)))))) (Or.inr (Or.inr (Or.inr (Or.inr (Or.inr (Or.inl rfl))))))) (Or.inr (Or.inr (Or.inr (Or.inr (Or.inr (Or.inr (Or.inl rfl)))))))) (Or.inr (Or.inr (Or.inr (Or.inr (Or.inr (Or.inr (Or.inr (rfl)))))))))
  have e2 : ((fp (fp (fp (fp (fp (fp (fp (fp F 69 0 0) 69 3 (Int32.ofNat tn)) 69 2 0) 69 4 0) 69 5 900) 69 15 0) 69 19 0) 69 20 0)).1 69 2 = 0 := (fp_ne (Or.inr (by decide))).trans ((fp_ne (Or.inr (by decide))).trans ((fp_ne (Or.inr (by decide))).trans ((fp_ne (Or.inr (by decide))).trans ((fp_ne (Or.inr (by decide))).trans (fp_eq)))))
  have e3 : ((fp (fp (fp (fp (fp (fp (fp (fp F 69 0 0) 69 3 (Int32.ofNat tn)) 69 2 0) 69 4 0) 69 5 900) 69 15 0) 69 19 0) 69 20 0)).1 69 3 = Int32.ofNat tn := (fp_ne (Or.inr (by decide))).trans ((fp_ne (Or.inr (by decide))).trans ((fp_ne (Or.inr (by decide))).trans ((fp_ne (Or.inr (by decide))).trans ((fp_ne (Or.inr (by decide))).trans ((fp_ne (Or.inr (by decide))).trans (fp_eq))))))
  have e4 : ((fp (fp (fp (fp (fp (fp (fp (fp F 69 0 0) 69 3 (Int32.ofNat tn)) 69 2 0) 69 4 0) 69 5 900) 69 15 0) 69 19 0) 69 20 0)).1 69 4 = 0 := (fp_ne (Or.inr (by decide))).trans ((fp_ne (Or.inr (by decide))).trans ((fp_ne (Or.inr (by decide))).trans ((fp_ne (Or.inr (by decide))).trans (fp_eq))))
  have e5 : ((fp (fp (fp (fp (fp (fp (fp (fp F 69 0 0) 69 3 (Int32.ofNat tn)) 69 2 0) 69 4 0) 69 5 900) 69 15 0) 69 19 0) 69 20 0)).1 69 5 = 900 := (fp_ne (Or.inr (by decide))).trans ((fp_ne (Or.inr (by decide))).trans ((fp_ne (Or.inr (by decide))).trans (fp_eq)))
  have e15 : ((fp (fp (fp (fp (fp (fp (fp (fp F 69 0 0) 69 3 (Int32.ofNat tn)) 69 2 0) 69 4 0) 69 5 900) 69 15 0) 69 19 0) 69 20 0)).1 69 15 = 0 := (fp_ne (Or.inr (by decide))).trans ((fp_ne (Or.inr (by decide))).trans (fp_eq))
  have e19 : ((fp (fp (fp (fp (fp (fp (fp (fp F 69 0 0) 69 3 (Int32.ofNat tn)) 69 2 0) 69 4 0) 69 5 900) 69 15 0) 69 19 0) 69 20 0)).1 69 19 = 0 := (fp_ne (Or.inr (by decide))).trans (fp_eq)
  have e20 : ((fp (fp (fp (fp (fp (fp (fp (fp F 69 0 0) 69 3 (Int32.ofNat tn)) 69 2 0) 69 4 0) 69 5 900) 69 15 0) 69 19 0) 69 20 0)).1 69 20 = 0 := fp_eq
  have e70 : ∀ k, ((fp (fp (fp (fp (fp (fp (fp (fp F 69 0 0) 69 3 (Int32.ofNat tn)) 69 2 0) 69 4 0) 69 5 900) 69 15 0) 69 19 0) 69 20 0)).1 70 k = F.1 70 k := fun k => (fp_ne (Or.inl (by decide))).trans ((fp_ne (Or.inl (by decide))).trans ((fp_ne (Or.inl (by decide))).trans ((fp_ne (Or.inl (by decide))).trans ((fp_ne (Or.inl (by decide))).trans ((fp_ne (Or.inl (by decide))).trans ((fp_ne (Or.inl (by decide))).trans (fp_ne (Or.inl (by decide)))))))))
  obtain ⟨B0, hB0⟩ : ∃ B0 : FW, B0 = (fp (fp (fp (fp (fp (fp (fp (fp F 69 0 0) 69 3 (Int32.ofNat tn)) 69 2 0) 69 4 0) 69 5 900) 69 15 0) 69 19 0) 69 20 0) := ⟨_, rfl⟩
  rw [← hB0] at sf0 e2 e3 e4 e5 e15 e19 e20 e70
  rw [← hB0]
  have gB := sf0.G hG
  refine Pv.lit rfl ?_
  refine Pv.istore (lo' := [some (.ref 69), some (.int 0)]) rfl rfl ?_
  refine Pv.lp (ι := Nat × FW) (lof := fun ⟨i1, A⟩ => [some (.ref 69), some (.int (Int32.ofNat i1))]) (Ff := fun ⟨i1, A⟩ => A) (P := fun ⟨i1, A⟩ => (i1 ≤ 4) ∧ (FX (fun q => q = 76) B0 A) ∧ (∀ j, j < i1 → A.1 76 j = 0)) ?_ (0, B0) (⟨Nat.zero_le _, FX.rf, fun j hj => absurd hj (Nat.not_lt_zero j)⟩)
  rintro N3 hN4 ⟨i1, A⟩ hi5 ih6
  refine (show Pv _ _ 29 [some (.ref 69), some (.int (Int32.ofNat i1))] [] A Q from ?_)
  obtain ⟨hi1, xa, ha⟩ := hi5
  have gA := GW.fx gB xa
  refine Pv.iloadS rfl rfl ?_
  refine Pv.lit rfl ?_
  refine Pv.icmp rfl (fun c7 => ?_) (fun c7 => ?_)
  · skip
    replace c7 := (i_le (a := 4) (b := i1) (by omega) (by omega)).mp (of_decide_eq_true c7)
    refine Pv.lit rfl ?_
    refine Pv.istore (lo' := [some (.ref 69), some (.int 0)]) rfl rfl ?_
    refine Pv.lp (ι := Nat × FW) (lof := fun ⟨i2, C⟩ => [some (.ref 69), some (.int (Int32.ofNat i2))]) (Ff := fun ⟨i2, C⟩ => C) (P := fun ⟨i2, C⟩ => (i2 ≤ 120) ∧ (FX (fun q => q = 72) A C) ∧ (∀ j, j < i2 → C.1 72 j = 0)) ?_ (0, A) (⟨Nat.zero_le _, FX.rf, fun j hj => absurd hj (Nat.not_lt_zero j)⟩)
    rintro N8 hN9 ⟨i2, C⟩ hi10 ih11
    refine (show Pv _ _ 49 [some (.ref 69), some (.int (Int32.ofNat i2))] [] C Q from ?_)
    obtain ⟨hi2, xc, hc⟩ := hi10
    have gC := GW.fx gA xc
    refine Pv.iloadS rfl rfl ?_
    refine Pv.lit rfl ?_
    refine Pv.icmp rfl (fun c12 => ?_) (fun c12 => ?_)
    · skip
      replace c12 := (i_le (a := 120) (b := i2) (by omega) (by omega)).mp (of_decide_eq_true c12)
      refine Pv.aload rfl rfl ?_
      refine Pv.getR (v := .ref 72) rfl rfl (GW.at (a := 69) (k := 7) (b := 72) gC (by decide)) ?_
      refine Pv.lit rfl ?_
      refine Pv.lit rfl ?_
      refine Pv.astk (k := 2) (z := 10) rfl (rfl) (rfl) ?_
      have gC2 : GW (fp C 72 2 10) := GW.fx gC ((FX.rf (P := fun q => q = 72)).fp rfl)
      refine Pv.aload rfl rfl ?_
      refine Pv.callV (as := [.ref 69]) (rest := []) rfl rfl rfl (g_next (n := tn) (p := 0) (lim := 900) gC2 ((fp_ne (Or.inl (by decide))).trans ((xc.1 69 3 (by decide)).trans ((xa.1 69 3 (by decide)).trans e3))) ((fp_ne (Or.inl (by decide))).trans ((xc.1 69 4 (by decide)).trans ((xa.1 69 4 (by decide)).trans e4))) ((fp_ne (Or.inl (by decide))).trans ((xc.1 69 5 (by decide)).trans ((xa.1 69 5 (by decide)).trans e5))) htn (Nat.zero_le _) (by decide)) ?_
      rintro _ D ⟨rfl, x1, x2⟩
      have xD : FX (fun q => q = 72 ∨ q = 76) B0 (fp C 72 2 10) := ((xa.wd fun q h => Or.inr h).tr (xc.wd fun q h => Or.inl h)).fp (Or.inl rfl)
      have sfD : SFX F D := (sf0.ox xD).sx (RSX.of (RLX.of x1))
      have gD := sfD.G hG
      have d9 : ∀ k, k ≠ 4 → k ≠ 11 → k ≠ 12 → k ≠ 13 → k ≠ 14 → D.1 69 k = B0.1 69 k := fun k c1 c2 c3 c4 c5 => (x1.2.1 k c1 c2 c3 c4 c5).trans (xD.1 69 k (by decide))
      have ht0 : RTK D (RBF F tn) tn 900 0 := RTK.of0 x1 (fun k => (xD.1 70 k (by decide)).trans (e70 k)) ((fp_ne (Or.inl (by decide))).trans ((xc.1 69 3 (by decide)).trans ((xa.1 69 3 (by decide)).trans e3))) ((fp_ne (Or.inl (by decide))).trans ((xc.1 69 5 (by decide)).trans ((xa.1 69 5 (by decide)).trans e5))) x2 htn (by decide)
      have sr0 : SRF D s0 := SRF.s0 (fun j hj => (x1.1.1 72 j (by decide)).trans (cell2 (hc j (by omega)))) ((d9 20 (by decide) (by decide) (by decide) (by decide) (by decide)).trans e20) (fun j hj => (x1.1.1 76 j (by decide)).trans ((fp_ne (Or.inl (by decide))).trans ((xc.1 76 j (by decide)).trans (ha j (by omega)))))
      refine (show Pv _ _ 80 [some (.ref 69), some (.int (Int32.ofNat i2))] [] D Q from ?_)
      refine Pv.lp (ι := Nat × Nat × PS × FW) (lof := fun ⟨l, i, s, K⟩ => [some (.ref 69), some (.int (Int32.ofNat i2))]) (Ff := fun ⟨l, i, s, K⟩ => K) (P := fun ⟨l, i, s, K⟩ => SFX F K ∧ K.1 69 2 = 0 ∧ K.1 69 15 = 0 ∧ K.1 69 19 = Int32.ofNat l ∧ lns (tok (RBF F tn) tn 900) l = some (s, i) ∧ RTK K (RBF F tn) tn 900 i ∧ SRF K s ∧ RWF K) ?_ (0, 0, s0, D) (⟨sfD, (d9 2 (by decide) (by decide) (by decide) (by decide) (by decide)).trans e2, (d9 15 (by decide) (by decide) (by decide) (by decide) (by decide)).trans e15, (d9 19 (by decide) (by decide) (by decide) (by decide) (by decide)).trans e19, rfl, ht0, sr0, sfD.W hW⟩)
      rintro N13 hN14 ⟨l, i, s, K⟩ hi15 ih16
      refine (show Pv _ _ 80 [some (.ref 69), some (.int (Int32.ofNat i2))] [] K Q from ?_)
      obtain ⟨sf, h2, h15, h19, hl, ht, hs, hR⟩ := hi15
      have gK := sf.G hG
      have bb := hs.b
      unfold PSB at bb
      refine Pv.aloadS rfl rfl ?_
      refine Pv.getI (z := K.1 69 11) rfl rfl (rfl) ?_
      refine Pv.if0 rfl (fun c17 => ?_) (fun c17 => ?_)
      · skip
        replace c17 := of_decide_eq_true c17
        have k0 : ((tok (RBF F tn) tn 900) i).k = 0 := rkk_z0.mp (ht.2.2.2.1.2.2.1.symm.trans (congrArg Int32.toInt c17))
        refine Pv.imp (r_st123 gK _) ?_
        rintro r F' ⟨e, st⟩
        rw [hQ]
        exact ⟨K, sf, h2, l, i, s, hl, Or.inl ⟨stp_0 k0, by rw [e, h19], hs, h15, st⟩⟩
      · skip
        replace c17 := of_decide_eq_false c17
        have k0 := hk0_ht ht c17
        obtain ⟨g, hg⟩ : ∃ g : Nat, s.h 0 = (g : Int) := ⟨(s.h 0).toNat, by omega⟩
        obtain ⟨m, hm⟩ : ∃ m : Nat, s.h 1 = (m : Int) := ⟨(s.h 1).toNat, by omega⟩
        obtain ⟨q, hq⟩ : ∃ q : Nat, s.h 3 = (q : Int) := ⟨(s.h 3).toNat, by omega⟩
        refine Pv.aload rfl rfl ?_
        refine Pv.callV (as := [.ref 69]) (rest := []) rfl rfl rfl (r_line gK ht hs hg hm hR hq) ?_
        rintro r0 K2 hr
        obtain ⟨z, rfl⟩ := LRQ.i hr
        refine (show Pv _ _ 91 [some (.ref 69), some (.int (Int32.ofNat i2))] [.int z] K2 Q from ?_)
        refine Pv.if0 rfl (fun c18 => ?_) (fun c18 => ?_)
        · skip
          replace c18 := of_decide_eq_true c18
          obtain ⟨f, j, ex, rx, f1, f2⟩ := hr.n c18
          have g2 := rx.G gK
          refine Pv.lit rfl ?_
          refine Pv.aload rfl rfl ?_
          refine Pv.getI (z := K2.1 69 16) rfl rfl (rfl) ?_
          refine Pv.bin (z := (-1) - (K2.1 69 16)) rfl (rfl) ?_
          exact Pv.ret rfl (by rw [hQ]; exact ⟨K2, sf.sx rx, (rx.2.1 2 (by decide) (by decide) (by decide) (by decide) (by decide) (by decide) (by decide) (by decide) (by decide)).trans h2, l, i, s, hl, Or.inr ⟨f, K2.1 69 16, by rw [f2]; exact stp_b k0 ex, BZ.x f j ex, rfl, f1, rfl⟩⟩)
        · skip
          replace c18 := of_decide_eq_false c18
          obtain ⟨s', j, ex, rx, t2, z2, hs2⟩ := hr.y c18
          have g2 := rx.G gK
          refine Pv.aload rfl rfl ?_
          refine Pv.lit rfl ?_
          refine Pv.callV (as := [.ref 69, .int 59]) (rest := []) rfl rfl rfl (r_sign g2 t2 (x := 59) rfl) ?_
          rintro _ K3 ⟨rfl, hsp⟩
          have g3 := RLX.G hsp.1 g2
          refine (show Pv _ _ 100 [some (.ref 69), some (.int (Int32.ofNat i2))] [.int (b2i (decide (tnS ((tok (RBF F tn) tn 900) j) 59 = 0)))] K3 Q from ?_)
          refine Pv.if0 rfl (fun c19 => ?_) (fun c19 => ?_)
          · skip
            replace c19 : decide (b2i (decide (tnS ((tok (RBF F tn) tn 900) j) 59 = 0)) = 0) = false := by simpa using c19
            replace c19 := of_decide_eq_false c19
            replace c19 := b2n.mp c19
            refine Pv.aload rfl rfl ?_
            refine Pv.dup rfl ?_
            refine Pv.getI (z := Int32.ofNat l) rfl rfl ((hsp.1.2.1 19 (by decide) (by decide) (by decide) (by decide) (by decide) (by decide) (by decide) (by decide)).trans ((rx.2.1 19 (by decide) (by decide) (by decide) (by decide) (by decide) (by decide) (by decide) (by decide) (by decide)).trans h19)) ?_
            refine Pv.lit rfl ?_
            refine Pv.bin (z := Int32.ofNat (l + 1)) rfl (i_add l 1) ?_
            refine Pv.putI rfl rfl ?_
            refine Pv.goto rfl ?_
            exact ih16 ((l + 1), (j + 1), s', (fp K3 69 19 (Int32.ofNat (l + 1)))) (⟨SFX.fp ((sf.sx rx).sx (RSX.of hsp.1)) (Or.inr (Or.inr (Or.inr (Or.inr (Or.inr (Or.inr (Or.inl rfl))))))), (fp_ne (Or.inr (by decide))).trans ((hsp.1.2.1 2 (by decide) (by decide) (by decide) (by decide) (by decide) (by decide) (by decide) (by decide)).trans ((rx.2.1 2 (by decide) (by decide) (by decide) (by decide) (by decide) (by decide) (by decide) (by decide) (by decide)).trans h2)), (fp_ne (Or.inr (by decide))).trans ((hsp.2.1 (of_decide_eq_true c19)).2.trans (z2.trans h15)), fp_eq, lns_y hl k0 ex (tnS_k (of_decide_eq_true c19)), ((hsp.2.1 (of_decide_eq_true c19)).1).oth (Or.inr (Or.inr ⟨rfl, Or.inr rfl⟩)), (hs2.lx hsp.1).sm (fun k => fp_ne (Or.inl (by decide))) (fp_ne (Or.inr (by decide))) (fun k => fp_ne (Or.inl (by decide))) (fun _ => rfl), fun j hj => (RLX.RW hsp.1 (rx.W hR)) j hj⟩)
          · skip
            replace c19 : decide (b2i (decide (tnS ((tok (RBF F tn) tn 900) j) 59 = 0)) = 0) = true := by simpa using c19
            replace c19 := of_decide_eq_true c19
            replace c19 := b2z.mp c19
            refine Pv.lit rfl ?_
            refine Pv.aload rfl rfl ?_
            refine Pv.getI (z := K3.1 69 16) rfl rfl (rfl) ?_
            refine Pv.bin (z := (-1) - (K3.1 69 16)) rfl (rfl) ?_
            exact Pv.ret rfl (by rw [hQ]; exact ⟨K3, (sf.sx rx).sx (RSX.of hsp.1), (hsp.1.2.1 2 (by decide) (by decide) (by decide) (by decide) (by decide) (by decide) (by decide) (by decide)).trans ((rx.2.1 2 (by decide) (by decide) (by decide) (by decide) (by decide) (by decide) (by decide) (by decide) (by decide)).trans h2), l, i, s, hl, Or.inr ⟨1, K3.1 69 16, by rw [(hsp.2.2 (of_decide_eq_false c19)).2]; exact stp_s k0 ex (tnS_n (of_decide_eq_false c19)), by decide, rfl, congrArg Int32.toInt ((hsp.2.2 (of_decide_eq_false c19)).1.trans (tnS_1 (of_decide_eq_false c19))), rfl⟩⟩)
    · skip
      replace c12 := mt (i_le (a := 120) (b := i2) (by omega) (by omega)).mpr (of_decide_eq_false c12)
      refine Pv.aload rfl rfl ?_
      refine Pv.getR (v := .ref 72) rfl rfl (GW.at (a := 69) (k := 7) (b := 72) gC (by decide)) ?_
      refine Pv.iload rfl rfl ?_
      refine Pv.lit rfl ?_
      refine Pv.astk (k := i2) (z := 0) rfl (i_toNat (by omega)) (rfl) ?_
      refine Pv.iinc (y := Int32.ofNat (i2 + 1)) (lo' := [some (.ref 69), some (.int (Int32.ofNat (i2 + 1)))]) rfl rfl (i_add i2 1) rfl ?_
      refine Pv.goto rfl ?_
      exact ih11 (i2 + 1, (fp C 72 i2 0)) (⟨by omega, xc.fp rfl, fun j hj => Or.elim (Classical.em (j = i2)) (fun e => by rw [e]; exact fp_eq) (fun e => (fp_ne (Or.inr e)).trans (hc j (by omega)))⟩)
  · skip
    replace c7 := mt (i_le (a := 4) (b := i1) (by omega) (by omega)).mpr (of_decide_eq_false c7)
    refine Pv.aload rfl rfl ?_
    refine Pv.getR (v := .ref 76) rfl rfl (GW.at (a := 69) (k := 21) (b := 76) gA (by decide)) ?_
    refine Pv.iload rfl rfl ?_
    refine Pv.lit rfl ?_
    refine Pv.astk (k := i1) (z := 0) rfl (i_toNat (by omega)) (rfl) ?_
    refine Pv.iinc (y := Int32.ofNat (i1 + 1)) (lo' := [some (.ref 69), some (.int (Int32.ofNat (i1 + 1)))]) rfl rfl (i_add i1 1) rfl ?_
    refine Pv.goto rfl ?_
    exact ih6 (i1 + 1, (fp A 76 i1 0)) (⟨by omega, xa.fp rfl, fun j hj => Or.elim (Classical.em (j = i1)) (fun e => by rw [e]; exact fp_eq) (fun e => (fp_ne (Or.inr e)).trans (ha j (by omega)))⟩)
