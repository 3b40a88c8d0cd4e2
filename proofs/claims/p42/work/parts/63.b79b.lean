set_option maxRecDepth 100000 in
set_option maxHeartbeats 4000000 in
theorem c_readText {F : FW} {K : Nat → TT} {m : Nat} (hG : GW F) (hT : TKF F K m) (h4 : F.1 3 4 = Int32.ofNat 0) (h9 : F.1 3 9 = 0) {r : Nat} {E : St} {nm : Nat → Int} (hE : TR F r E) (hN : NMC F r E nm) (hr : 40 ≤ r) : Pm Z_X4_readText [.ref 36, .ref 3, .ref r] F (fun r' F' => r' = none ∧ TXX F F' ∧ LGR F' K nm (t_g E) (t_m E)) := by
  refine Pm.of fun N => ?_
  obtain ⟨Q, hQ⟩ : ∃ Q : Option Value → FW → Prop, Q = (fun r' F' => r' = none ∧ TXX F F' ∧ LGR F' K nm (t_g E) (t_m E)) := ⟨_, rfl⟩
  rw [← hQ]
  refine (show Pv (ab_T (L_X4_readText Z_X9_step Z_X4_readLine Z_X9_takeSign)) N 0 [some (.ref 36), some (.ref 3), some (.ref r), none, none] [] F Q from ?_)
  refine Pv.aload rfl rfl ?_
  refine Pv.lit rfl ?_
  refine Pv.putI rfl rfl ?_
  refine Pv.lit rfl ?_
  refine Pv.istore (lo' := [some (.ref 36), some (.ref 3), some (.ref r), some (.int 1), none]) rfl rfl ?_
  refine Pv.lit rfl ?_
  refine Pv.istore (lo' := [some (.ref 36), some (.ref 3), some (.ref r), some (.int 1), some (.int 0)]) rfl rfl ?_
  refine Pv.lp (ι := Int32 × Nat × FW × LN × Nat) (lof := fun ⟨b, n, G, L, i⟩ => [some (.ref 36), some (.ref 3), some (.ref r), some (.int b), some (.int (Int32.ofNat n))]) (Ff := fun ⟨b, n, G, L, i⟩ => G) (P := fun ⟨b, n, G, L, i⟩ => (n ≤ 41) ∧ (TXX F G) ∧ (GW G) ∧ (TKF G K m) ∧ ((b = 1 ∧ n ≤ 40 ∧ lgs K nm (t_g E) (t_m E) n = some (L, i) ∧ G.1 36 3 = Int32.ofNat n ∧ LNS G L n ∧ G.1 3 4 = Int32.ofNat i ∧ i < m ∧ G.1 3 9 = 0) ∨ (b = 0 ∧ LGR G K nm (t_g E) (t_m E)))) ?_ (1, 0, (fp F 36 3 0), (fun _ => (0, 0, 0)), 0) (⟨by omega, ⟨((FX.rf (P := fun q => q = 3 ∨ (36 ≤ q ∧ q ≤ 39)))).fp (Or.inr (by omega)), fun k hk => fp_ne (Or.inr hk)⟩, (hG.fx (P := fun _ => True) (((FX.rf (P := fun _ => True))).fp trivial)), RCX_tk36 hT, Or.inl ⟨rfl, by omega, rfl, fp_eq, LNS.z, (fp_ne (Or.inl (by decide))).trans h4, by have := hT.1; omega, (fp_ne (Or.inl (by decide))).trans h9⟩⟩)
  rintro N1 hN2 ⟨b, n, G, L, i⟩ hi3 ih4
  refine (show Pv _ _ 10 [some (.ref 36), some (.ref 3), some (.ref r), some (.int b), some (.int (Int32.ofNat n))] [] G Q from ?_)
  obtain ⟨hn, hx, hGG, htk, hgo⟩ := hi3
  refine Pv.iloadS rfl rfl ?_
  refine Pv.lit rfl ?_
  refine Pv.icmp rfl (fun c5 => ?_) (fun c5 => ?_)
  · skip
    replace c5 := (i_lt (a := 40) (b := n) (by omega) (by omega)).mp (of_decide_eq_true c5)
    exact Pv.vret rfl (by rw [hQ]; exact ⟨rfl, hx, (hgo.resolve_left (fun q => by have := q.2.1; omega)).2⟩)
  · skip
    replace c5 := mt (i_lt (a := 40) (b := n) (by omega) (by omega)).mpr (of_decide_eq_false c5)
    refine Pv.iload rfl rfl ?_
    refine Pv.if0 rfl (fun c6 => ?_) (fun c6 => ?_)
    · skip
      replace c6 := of_decide_eq_true c6
      exact Pv.vret rfl (by rw [hQ]; exact ⟨rfl, hx, (hgo.resolve_left (fun q => absurd (q.1.symm.trans c6) (by decide))).2⟩)
    · skip
      replace c6 := of_decide_eq_false c6
      obtain ⟨hb, hn40, hls, hc, hL, h4g, him, h9g⟩ := hgo.resolve_right (fun q => c6 q.1)
      have hE1 := hE.fx (P := fun q => q = 3 ∨ (36 ≤ q ∧ q ≤ 39)) hx.1 (fun q h1 h2 (c : q = 3 ∨ (36 ≤ q ∧ q ≤ 39)) => by omega)
      have hN1 := hN.fx (P := fun q => q = 3 ∨ (36 ≤ q ∧ q ≤ 39)) hx.1 (show ¬ (r + 1 = 3 ∨ (36 ≤ r + 1 ∧ r + 1 ≤ 39)) by omega) (show ¬ (r + 2 = 3 ∨ (36 ≤ r + 2 ∧ r + 2 ≤ 39)) by omega)
      refine Pv.aload rfl rfl ?_
      refine Pv.callV (as := [.ref 3]) (rest := []) rfl rfl rfl (c_step hGG htk h4g him) ?_
      rintro _ G1 ⟨rfl, hd1⟩
      have tk1 := RCX.TK hd1.1 htk
      have gw1 := RCX.G hd1.1 hGG
      have hc1 : G1.1 36 3 = Int32.ofNat n := (hd1.1.1.1 36 3 (by decide)).trans hc
      refine (show Pv _ _ 25 [some (.ref 36), some (.ref 3), some (.ref r), some (.int b), some (.int (Int32.ofNat n))] [] G1 Q from ?_)
      refine Pv.aload rfl rfl ?_
      refine Pv.getI (z := G1.1 3 5) rfl rfl (rfl) ?_
      refine Pv.if0 rfl (fun c7 => ?_) (fun c7 => ?_)
      · skip
        replace c7 := of_decide_eq_true c7
        refine Pv.lit rfl ?_
        refine Pv.istore (lo' := [some (.ref 36), some (.ref 3), some (.ref r), some (.int 0), some (.int (Int32.ofNat n))]) rfl rfl ?_
        refine Pv.iinc (y := Int32.ofNat (n + 1)) (lo' := [some (.ref 36), some (.ref 3), some (.ref r), some (.int 0), some (.int (Int32.ofNat (n + 1)))]) rfl rfl (i_add n 1) rfl ?_
        refine Pv.goto rfl ?_
        exact ih4 (0, n + 1, G1, L, i) (⟨by omega, (hx.tr (LCX.of (c := 0) hd1.1).tx), gw1, tk1, Or.inr ⟨rfl, LGR.mk hls (lge_0 ((k_eq (x := 0) hd1.2.2.1.1).mp c7)) (fun _ => ⟨hc1, hL.k (LCX.of hd1.1)⟩) hn40 ((hd1.ok9 rfl).trans h9g) hd1.2.2.1⟩⟩)
      · skip
        replace c7 := of_decide_eq_false c7
        have h0 : (K i).k ≠ 0 := fun e => c7 ((k_eq (x := 0) hd1.2.2.1.1).mpr e)
        have hE2 := hE1.fx (P := fun q => q = 3) hd1.1.1 (fun q h1 h2 (c : q = 3) => by omega)
        have hN2 := hN1.fx (P := fun q => q = 3) hd1.1.1 (show ¬ r + 1 = 3 by omega) (show ¬ r + 2 = 3 by omega)
        refine Pv.aload rfl rfl ?_
        refine Pv.aload rfl rfl ?_
        refine Pv.aload rfl rfl ?_
        refine Pv.callV (as := [.ref 36, .ref 3, .ref r]) (rest := []) rfl rfl rfl (c_readLine gw1 tk1 hd1.2.1 him hc1 hn40 hd1.2.2.1 h0 hE2 hN2 hr) ?_
        rintro _ G2 ⟨rfl, hx2, hm⟩
        have tk2 := LCX.TK hx2 tk1
        have gw2 := LCX.G hx2 gw1
        refine (show Pv _ _ 38 [some (.ref 36), some (.ref 3), some (.ref r), some (.int b), some (.int (Int32.ofNat n))] [.int (ll_b (ll K nm (t_g E) (t_m E) n i))] G2 Q from ?_)
        refine Pv.if0 rfl (fun c8 => ?_) (fun c8 => ?_)
        · skip
          replace c8 := of_decide_eq_true c8
          obtain ⟨q, j, el⟩ := ll_b0 c8
          have hm2 : G2.1 3 9 = q ∧ CURF G2 (K j) := by rw [el] at hm; exact hm
          refine Pv.lit rfl ?_
          refine Pv.istore (lo' := [some (.ref 36), some (.ref 3), some (.ref r), some (.int 0), some (.int (Int32.ofNat n))]) rfl rfl ?_
          refine Pv.iinc (y := Int32.ofNat (n + 1)) (lo' := [some (.ref 36), some (.ref 3), some (.ref r), some (.int 0), some (.int (Int32.ofNat (n + 1)))]) rfl rfl (i_add n 1) rfl ?_
          refine Pv.goto rfl ?_
          exact ih4 (0, n + 1, G2, L, i) (⟨by omega, ((hx.tr (LCX.of (c := 0) hd1.1).tx).tr hx2.tx), gw2, tk2, Or.inr ⟨rfl, LGR.mk hls (lge_n h0 el) (fun e => absurd e (ll_nz el)) hn40 hm2.1 hm2.2⟩⟩)
        · skip
          replace c8 := of_decide_eq_false c8
          obtain ⟨d, w, x, j, el⟩ := ll_b1 c8
          have hm2 : G2.1 3 4 = Int32.ofNat j ∧ G2.1 3 9 = G1.1 3 9 ∧ LIN G2 n d w x ∧ j < m := by rw [el] at hm; exact hm
          have n40 := ll_40 el
          refine Pv.aload rfl rfl ?_
          refine Pv.lit rfl ?_
          refine Pv.callV (as := [.ref 3, .int 59]) (rest := []) rfl rfl rfl (c_takeSign gw2 tk2 hm2.1 hm2.2.2.2 59) ?_
          rintro _ G3 ⟨rfl, hd3x⟩
          have hd3 : RDC G2 G3 (K j) j (tnS (K j) 59) := hd3x
          have tk3 := RCX.TK hd3.1 tk2
          have gw3 := RCX.G hd3.1 gw2
          refine (show Pv _ _ 47 [some (.ref 36), some (.ref 3), some (.ref r), some (.int b), some (.int (Int32.ofNat n))] [.int (b2i (decide (tnS (K j) 59 = 0)))] G3 Q from ?_)
          refine Pv.if0 rfl (fun c9 => ?_) (fun c9 => ?_)
          · skip
            replace c9 := of_decide_eq_true c9
            replace c9 := b2z.mp c9
            refine Pv.lit rfl ?_
            refine Pv.istore (lo' := [some (.ref 36), some (.ref 3), some (.ref r), some (.int 0), some (.int (Int32.ofNat n))]) rfl rfl ?_
            refine Pv.iinc (y := Int32.ofNat (n + 1)) (lo' := [some (.ref 36), some (.ref 3), some (.ref r), some (.int 0), some (.int (Int32.ofNat (n + 1)))]) rfl rfl (i_add n 1) rfl ?_
            refine Pv.goto rfl ?_
            exact ih4 (0, n + 1, G3, L, i) (⟨by omega, (((hx.tr (LCX.of (c := 0) hd1.1).tx).tr hx2.tx).tr (LCX.of (c := 0) hd3.1).tx), gw3, tk3, Or.inr ⟨rfl, LGR.mk hls (lge_s h0 el (of_decide_eq_false c9)) (fun e => absurd e (by decide)) hn40 ((hd3.bad9 (of_decide_eq_false c9)).trans (tnS_1 (of_decide_eq_false c9))) hd3.2.2.1⟩⟩)
          · skip
            replace c9 := of_decide_eq_false c9
            replace c9 := b2n.mp c9
            refine Pv.lit rfl ?_
            refine Pv.goto rfl ?_
            refine Pv.istore (lo' := [some (.ref 36), some (.ref 3), some (.ref r), some (.int 1), some (.int (Int32.ofNat n))]) rfl rfl ?_
            refine Pv.iinc (y := Int32.ofNat (n + 1)) (lo' := [some (.ref 36), some (.ref 3), some (.ref r), some (.int 1), some (.int (Int32.ofNat (n + 1)))]) rfl rfl (i_add n 1) rfl ?_
            refine Pv.goto rfl ?_
            exact ih4 (1, n + 1, G3, upn L n (d, w, x), (j + 1)) (⟨by omega, (((hx.tr (LCX.of (c := 0) hd1.1).tx).tr hx2.tx).tr (LCX.of (c := 0) hd3.1).tx), gw3, tk3, Or.inl ⟨rfl, by omega, lgs_y hls h0 el (of_decide_eq_true c9), (hd3.1.1.1 36 3 (by decide)).trans hm2.2.2.1.1, ((((hL.k (LCX.of hd1.1)).k hx2).s hm2.2.2.1).k (LCX.of hd3.1)), hd3.2.1, tk3.up hm2.2.2.2 (by rw [tnS_k (of_decide_eq_true c9)]; decide) (by rw [tnS_k (of_decide_eq_true c9)]; decide), (hd3.ok9 (of_decide_eq_true c9)).trans (hm2.2.1.trans ((hd1.ok9 rfl).trans h9g))⟩⟩)
