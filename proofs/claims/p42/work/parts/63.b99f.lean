set_option maxRecDepth 100000 in
set_option maxHeartbeats 4000000 in
theorem r_misses {F : FW} {B : Nat → Int} {n lim i : Nat} (hG : GW F) (hT : RTK F B n lim i) {s : PS} {g m : Nat} (hs : SRF F s) (hg : s.h 0 = (g : Int)) (hm : s.h 1 = (m : Int)) (hR : RWF F) {q : Nat} (hq : s.h 3 = (q : Int)) : Pm Z_X11_readMisses [.ref 69] F (fun r F' => LRQ F F' B n lim r (lnMiss (tok B n lim) s i)) := by
  refine Pm.of fun N => ?_
  obtain ⟨Q, hQ⟩ : ∃ Q : Option Value → FW → Prop, Q = (fun r F' => LRQ F F' B n lim r (lnMiss (tok B n lim) s i)) := ⟨_, rfl⟩
  rw [← hQ]
  have bb := hs.b
  unfold PSB at bb
  have bg : g ≤ 6 := by omega
  have bm : m ≤ 8 := by omega
  have bq : q ≤ 20 := by omega
  refine (show Pv (ab_T (L_X11_readMisses Z_X11_bad Z_X11_next Z_X11_takesName Z_X11_looksAt Z_X11_puts)) N 0 [some (.ref 69), none, none, none, none] [] F Q from ?_)
  refine Pv.aload rfl rfl ?_
  refine Pv.getR (v := .ref 72) rfl rfl (GW.at (a := 69) (k := 7) (b := 72) hG (by decide)) ?_
  refine Pv.lit rfl ?_
  refine Pv.ald (z := Int32.ofNat q) rfl (hs.at (by decide) hq) ?_
  refine Pv.istore (lo' := [some (.ref 69), some (.int (Int32.ofNat q)), none, none, none]) rfl rfl ?_
  refine Pv.iload rfl rfl ?_
  refine Pv.lit rfl ?_
  refine Pv.icmp rfl (fun c1 => ?_) (fun c1 => ?_)
  · skip
    replace c1 : decide (Int32.ofNat q = 20) = false := by simpa using c1
    replace c1 := mt (i_eq (a := q) (b := 20) (by omega) (by omega)).mpr (of_decide_eq_false c1)
    refine Pv.aload rfl rfl ?_
    refine Pv.callV (as := [.ref 69]) (rest := []) rfl rfl rfl (r_next hG hT) ?_
    rintro _ Gn ⟨rfl, xn, tn⟩
    have gn := RNX.G xn hG
    have sn1 := hs.lx (RLX.of xn)
    refine (show Pv _ _ 23 [some (.ref 69), some (.int (Int32.ofNat q)), none, none, none] [] Gn Q from ?_)
    refine Pv.aload rfl rfl ?_
    refine Pv.lit rfl ?_
    refine Pv.aload rfl rfl ?_
    refine Pv.getR (v := .ref 72) rfl rfl (GW.at (a := 69) (k := 7) (b := 72) gn (by decide)) ?_
    refine Pv.lit rfl ?_
    refine Pv.ald (z := Int32.ofNat m) rfl ((xn.1.1 72 1 (by decide)).trans (hs.at (by decide) hm)) ?_
    refine Pv.callV (as := [.ref 69, .int 20, .int (Int32.ofNat m)]) (rest := []) rfl rfl rfl (r_takesName (nm := sn s) (o := 20) (q := m) gn tn (by decide) (by omega) (sn1.m hm) ((RLX.of xn).RW hR)) ?_
    rintro _ G2 ⟨rfl, h2x, hv2x⟩
    have h2 : RSP Gn G2 B n lim (i + 1) (i + 2) (lkc (sn s) 20 m (tok B n lim (i + 1))) := h2x
    have hv2 : lkc (sn s) 20 m (tok B n lim (i + 1)) = 0 → G2.1 69 18 = oN (m_fst (fP (sn s) 20 (tok B n lim (i + 1)).v) m) := hv2x
    have g2 := RLX.G h2.1 gn
    refine (show Pv _ _ 35 [some (.ref 69), some (.int (Int32.ofNat q)), none, none, none] [.int (b2i (decide (lkc (sn s) 20 m (tok B n lim (i + 1)) = 0)))] G2 Q from ?_)
    refine Pv.if0 rfl (fun c2 => ?_) (fun c2 => ?_)
    · skip
      replace c2 : decide (b2i (decide (lkc (sn s) 20 m (tok B n lim (i + 1)) = 0)) = 0) = false := by simpa using c2
      replace c2 := of_decide_eq_false c2
      replace c2 := b2n.mp c2
      have e2 := of_decide_eq_true c2
      obtain ⟨w1, hw1, hf1, l1⟩ := lold_y (s := s) (o := 6) (fun _ => sn_m) (by omega) e2
      have hw18 : G2.1 69 18 = Int32.ofNat w1 := by rw [hv2 e2, hf1]; rfl
      have tn2 := (h2.2.1 e2).1
      have sn2 := sn1.lx h2.1
      have z2 : G2.1 69 15 = F.1 69 15 := (h2.2.1 e2).2.trans (xn.2.1 15 (by decide) (by decide) (by decide) (by decide) (by decide))
      refine Pv.aload rfl rfl ?_
      refine Pv.getI (z := Int32.ofNat w1) rfl rfl (hw18) ?_
      refine Pv.istore (lo' := [some (.ref 69), some (.int (Int32.ofNat q)), some (.int (Int32.ofNat w1)), none, none]) rfl rfl ?_
      refine Pv.aload rfl rfl ?_
      refine Pv.lit rfl ?_
      refine Pv.aload rfl rfl ?_
      refine Pv.getR (v := .ref 72) rfl rfl (GW.at (a := 69) (k := 7) (b := 72) g2 (by decide)) ?_
      refine Pv.lit rfl ?_
      refine Pv.ald (z := Int32.ofNat m) rfl (sn2.at (by decide) hm) ?_
      refine Pv.callV (as := [.ref 69, .int 20, .int (Int32.ofNat m)]) (rest := []) rfl rfl rfl (r_looksAt (nm := sn s) (o := 20) (q := m) g2 tn2 (by decide) (by omega) (sn2.m hm) (h2.1.RW ((RLX.of xn).RW hR))) ?_
      rintro _ G3 ⟨rfl, h3x, hv3x⟩
      have h3 : RSP G2 G3 B n lim (i + 2) (i + 2) (lkc (sn s) 20 m (tok B n lim (i + 2))) := h3x
      have hv3 : lkc (sn s) 20 m (tok B n lim (i + 2)) = 0 → G3.1 69 18 = oN (m_fst (fP (sn s) 20 (tok B n lim (i + 2)).v) m) := hv3x
      have g3 := RLX.G h3.1 g2
      refine (show Pv _ _ 57 [some (.ref 69), some (.int (Int32.ofNat q)), some (.int (Int32.ofNat w1)), none, none] [.int (b2i (decide (lkc (sn s) 20 m (tok B n lim (i + 2)) = 0)))] G3 Q from ?_)
      refine Pv.if0 rfl (fun c3 => ?_) (fun c3 => ?_)
      · skip
        replace c3 : decide (b2i (decide (lkc (sn s) 20 m (tok B n lim (i + 2)) = 0)) = 0) = false := by simpa using c3
        replace c3 := of_decide_eq_false c3
        replace c3 := b2n.mp c3
        have e3 := of_decide_eq_true c3
        obtain ⟨w2, hw2, hf2, l2⟩ := lold_y (s := s) (o := 6) (fun _ => sn_m) (by omega) e3
        have hw28 : G3.1 69 18 = Int32.ofNat w2 := by rw [hv3 e3, hf2]; rfl
        have tn3 := (h3.2.1 e3).1
        have sn3 := sn2.lx h3.1
        have z3 : G3.1 69 15 = F.1 69 15 := (h3.2.1 e3).2.trans z2
        have y3 : RSX F G3 := ((RSX.of (RLX.of xn)).lx h2.1).lx h3.1
        refine Pv.aload rfl rfl ?_
        refine Pv.getI (z := Int32.ofNat w2) rfl rfl (hw28) ?_
        refine Pv.iload rfl rfl ?_
        refine Pv.icmp rfl (fun c4 => ?_) (fun c4 => ?_)
        · skip
          replace c4 := (i_eq (a := w2) (b := w1) (by omega) (by omega)).mp (of_decide_eq_true c4)
          refine Pv.lit rfl ?_
          refine Pv.istore (lo' := [some (.ref 69), some (.int (Int32.ofNat q)), some (.int (Int32.ofNat w1)), some (.int 0), none]) rfl rfl ?_
          refine Pv.lit rfl ?_
          refine Pv.istore (lo' := [some (.ref 69), some (.int (Int32.ofNat q)), some (.int (Int32.ofNat w1)), some (.int 0), some (.int 0)]) rfl rfl ?_
          refine Pv.lp (ι := Int32 × Nat) (lof := fun ⟨b, j⟩ => [some (.ref 69), some (.int (Int32.ofNat q)), some (.int (Int32.ofNat w1)), some (.int b), some (.int (Int32.ofNat j))]) (Ff := fun ⟨b, j⟩ => G3) (P := fun ⟨b, j⟩ => j ≤ q ∧ b = b2i (!(decide ((w1 : Int) = (w2 : Int)) || mtold s.h (w1 : Int) (w2 : Int) j))) ?_ (0, 0) (⟨Nat.zero_le _, by rw [decide_eq_true (show (w1 : Int) = (w2 : Int) by omega)]; rfl⟩)
          rintro N5 hN6 ⟨b, j⟩ hi7 ih8
          refine (show Pv _ _ 79 [some (.ref 69), some (.int (Int32.ofNat q)), some (.int (Int32.ofNat w1)), some (.int b), some (.int (Int32.ofNat j))] [] G3 Q from ?_)
          obtain ⟨hj, hb⟩ := hi7
          refine Pv.iloadS rfl rfl ?_
          refine Pv.iload rfl rfl ?_
          refine Pv.icmp rfl (fun c9 => ?_) (fun c9 => ?_)
          · skip
            replace c9 := (i_le (a := q) (b := j) (by omega) (by omega)).mp (of_decide_eq_true c9)
            refine Pv.iload rfl rfl ?_
            refine Pv.if0 rfl (fun c10 => ?_) (fun c10 => ?_)
            · skip
              replace c10 : decide (b = 0) = false := by simpa using c10
              replace c10 := of_decide_eq_false c10
              have jq : j = q := by omega
              rw [jq] at hb
              have hn2 := mt_n (fun z => c10 (hb.trans z))
              have hM : ¬ ((w1 : Int) = (w2 : Int) ∨ mtold s.h (w1 : Int) (w2 : Int) q = true) := fun z => z.elim (of_decide_eq_false hn2.1) (fun y => by rw [hn2.2] at y; cases y)
              refine Pv.aload rfl rfl ?_
              refine Pv.getR (v := .ref 72) rfl rfl (GW.at (a := 69) (k := 7) (b := 72) g3 (by decide)) ?_
              refine Pv.lit rfl ?_
              refine Pv.iload rfl rfl ?_
              refine Pv.bin (z := Int32.ofNat (60 + q)) rfl (i_add 60 q) ?_
              refine Pv.iload rfl rfl ?_
              refine Pv.astk (k := 60 + q) (z := Int32.ofNat w1) rfl (i_toNat (by omega)) (rfl) ?_
              refine Pv.aload rfl rfl ?_
              refine Pv.getR (v := .ref 72) rfl rfl (GW.at (a := 69) (k := 7) (b := 72) g3 (by decide)) ?_
              refine Pv.lit rfl ?_
              refine Pv.iload rfl rfl ?_
              refine Pv.bin (z := Int32.ofNat (80 + q)) rfl (i_add 80 q) ?_
              refine Pv.aload rfl rfl ?_
              refine Pv.getI (z := Int32.ofNat w2) rfl rfl ((fp_ne (Or.inl (by decide))).trans (hw28)) ?_
              refine Pv.astk (k := 80 + q) (z := Int32.ofNat w2) rfl (i_toNat (by omega)) (rfl) ?_
              refine Pv.aload rfl rfl ?_
              refine Pv.callV (as := [.ref 69]) (rest := []) rfl rfl rfl (r_next (GW.fx g3 (((FX.rf (P := fun q => q = 72)).fp rfl).fp rfl)) ((tn3.oth (a := 72) (Or.inl rfl)).oth (a := 72) (Or.inl rfl))) ?_
              rintro _ G4 ⟨rfl, xn4, tn4⟩
              have g4 := RNX.G xn4 (GW.fx g3 (((FX.rf (P := fun q => q = 72)).fp rfl).fp rfl))
              have sn4 := ((sn3.put (k := 60 + q) (a := (w1 : Int)) (by omega) (i_toInt (by omega))).put (k := 80 + q) (a := (w2 : Int)) (by omega) (i_toInt (by omega))).lx (RLX.of xn4)
              have y4 : RSX F G4 := y3.p72.p72.lx (RLX.of xn4)
              have z4 : G4.1 69 15 = F.1 69 15 := (xn4.2.1 15 (by decide) (by decide) (by decide) (by decide) (by decide)).trans ((fp_ne (Or.inl (by decide))).trans ((fp_ne (Or.inl (by decide))).trans z3))
              refine (show Pv _ _ 169 [some (.ref 69), some (.int (Int32.ofNat q)), some (.int (Int32.ofNat w1)), some (.int b), some (.int (Int32.ofNat j))] [] G4 Q from ?_)
              refine Pv.aload rfl rfl ?_
              refine Pv.lit rfl ?_
              refine Pv.iload rfl rfl ?_
              refine Pv.bin (z := Int32.ofNat (100 + q)) rfl (i_add 100 q) ?_
              refine Pv.lit rfl ?_
              refine Pv.lit rfl ?_
              refine Pv.callV (as := [.ref 69, .int (Int32.ofNat (100 + q)), .int 0, .int 60]) (rest := []) rfl rfl rfl (r_puts (k := 100 + q) g4 tn4 (by omega) 0 60) ?_
              rintro _ G5 ⟨rfl, G6, x6, py, pn⟩
              have g5 : GW G5 := puts_gw g4 x6 py pn
              refine (show Pv _ _ 180 [some (.ref 69), some (.int (Int32.ofNat q)), some (.int (Int32.ofNat w1)), some (.int b), some (.int (Int32.ofNat j))] [.int (b2i (decide (tnN (tok B n lim (i + 3)) (0 : Int32).toInt (60 : Int32).toInt = 0)))] G5 Q from ?_)
              refine Pv.if0 rfl (fun c11 => ?_) (fun c11 => ?_)
              · skip
                replace c11 : decide (b2i (decide (tnN (tok B n lim (i + 3)) (0 : Int32).toInt (60 : Int32).toInt = 0)) = 0) = false := by simpa using c11
                replace c11 := of_decide_eq_false c11
                replace c11 := b2n.mp c11
                have ep := of_decide_eq_true c11
                obtain ⟨t7, z7, hv7, rfl⟩ := py ep
                have sn7 := (sn4.lx x6).put (k := 100 + q) (by omega) hv7
                have hq7 : ups (ups (ups s.h (60 + q) (w1 : Int)) (80 + q) (w2 : Int)) (100 + q) (tok B n lim (i + 3)).v 3 = (q : Int) := (ups_ne (by omega)).trans ((ups_ne (by omega)).trans ((ups_ne (by omega)).trans hq))
                refine Pv.aload rfl rfl ?_
                refine Pv.getR (v := .ref 72) rfl rfl (GW.at (a := 69) (k := 7) (b := 72) g5 (by decide)) ?_
                refine Pv.lit rfl ?_
                refine Pv.dup2 rfl ?_
                refine Pv.ald (z := Int32.ofNat q) rfl (sn7.at (by decide) hq7) ?_
                refine Pv.lit rfl ?_
                refine Pv.bin (z := Int32.ofNat (q + 1)) rfl (i_add q 1) ?_
                refine Pv.astk (k := 3) (z := Int32.ofNat (q + 1)) rfl (rfl) (rfl) ?_
                refine Pv.lit rfl ?_
                exact Pv.zret rfl (by rw [hQ]; exact LRQ.ok (lnMiss_y (by omega) hm hq l1 l2 hM ep) ((y4.lx x6).p72).p72 ((t7.oth (Or.inl rfl)).oth (Or.inl rfl)) ((fp_ne (Or.inl (by decide))).trans ((fp_ne (Or.inl (by decide))).trans (z7.trans z4))) (sn7.miss hq7 (by omega)))
              · skip
                replace c11 : decide (b2i (decide (tnN (tok B n lim (i + 3)) (0 : Int32).toInt (60 : Int32).toInt = 0)) = 0) = true := by simpa using c11
                replace c11 := of_decide_eq_true c11
                replace c11 := b2z.mp c11
                refine Pv.lit rfl ?_
                have en := of_decide_eq_false c11
                obtain ⟨eg, q1, q2⟩ := pn en
                subst eg
                exact Pv.zret rfl (by rw [hQ]; exact LRQ.bad (lnMiss_n (by omega) hm hq l1 l2 hM en) (y4.lx x6) (congrArg Int32.toInt q1) q2)
            · skip
              replace c10 : decide (b = 0) = true := by simpa using c10
              replace c10 := of_decide_eq_true c10
              have jq : j = q := by omega
              rw [jq] at hb
              have hM : (w1 : Int) = (w2 : Int) ∨ mtold s.h (w1 : Int) (w2 : Int) q = true := (mt_y (hb ▸ c10)).elim (fun z => Or.inl (of_decide_eq_true z)) Or.inr
              refine Pv.aload rfl rfl ?_
              refine Pv.lit rfl ?_
              refine Pv.callVI (as := [.ref 69, .int 3]) (rest := []) (z := 0) rfl rfl rfl (r_bad (c := 3) g3) ?_
              exact Pv.zret rfl (by rw [hQ]; exact LRQ.rb (j := i + 2) (c := 3) (lnMiss_t (by omega) hm hq l1 l2 hM) y3 tn3)
          · skip
            replace c9 := mt (i_le (a := q) (b := j) (by omega) (by omega)).mpr (of_decide_eq_false c9)
            refine Pv.iload rfl rfl ?_
            refine Pv.if0 rfl (fun c12 => ?_) (fun c12 => ?_)
            · skip
              replace c12 := of_decide_eq_true c12
              refine Pv.lit rfl ?_
              refine Pv.istore (lo' := [some (.ref 69), some (.int (Int32.ofNat q)), some (.int (Int32.ofNat w1)), some (.int 0), some (.int (Int32.ofNat j))]) rfl rfl ?_
              refine Pv.iinc (y := Int32.ofNat (j + 1)) (lo' := [some (.ref 69), some (.int (Int32.ofNat q)), some (.int (Int32.ofNat w1)), some (.int 0), some (.int (Int32.ofNat (j + 1)))]) rfl rfl (i_add j 1) rfl ?_
              refine Pv.goto rfl ?_
              exact ih8 (0, j + 1) (⟨by omega, mt_0 (hb ▸ c12)⟩)
            · skip
              replace c12 := of_decide_eq_false c12
              refine Pv.aload rfl rfl ?_
              refine Pv.getR (v := .ref 72) rfl rfl (GW.at (a := 69) (k := 7) (b := 72) g3 (by decide)) ?_
              refine Pv.lit rfl ?_
              refine Pv.iload rfl rfl ?_
              refine Pv.bin (z := Int32.ofNat (60 + j)) rfl (i_add 60 j) ?_
              refine Pv.ald (z := G3.1 72 (60 + j)) rfl (by rw [i_toNat (by omega)]) ?_
              refine Pv.iload rfl rfl ?_
              refine Pv.icmp rfl (fun c13 => ?_) (fun c13 => ?_)
              · skip
                replace c13 : decide (G3.1 72 (60 + j) = Int32.ofNat w1) = false := by simpa using c13
                replace c13 := of_decide_eq_false c13
                refine Pv.lit rfl ?_
                refine Pv.goto rfl ?_
                refine Pv.istore (lo' := [some (.ref 69), some (.int (Int32.ofNat q)), some (.int (Int32.ofNat w1)), some (.int 1), some (.int (Int32.ofNat j))]) rfl rfl ?_
                refine Pv.iinc (y := Int32.ofNat (j + 1)) (lo' := [some (.ref 69), some (.int (Int32.ofNat q)), some (.int (Int32.ofNat w1)), some (.int 1), some (.int (Int32.ofNat (j + 1)))]) rfl rfl (i_add j 1) rfl ?_
                refine Pv.goto rfl ?_
                exact ih8 (1, j + 1) (⟨by omega, mt_1 (fun z => c12 (hb.trans z)) (by rw [decide_eq_false (fun z => c13 ((sn3.eqv (i := 60 + j) (w := w1) (by omega) (by omega)).mpr z))]; rfl)⟩)
              · skip
                replace c13 : decide (G3.1 72 (60 + j) = Int32.ofNat w1) = true := by simpa using c13
                replace c13 := of_decide_eq_true c13
                refine Pv.aload rfl rfl ?_
                refine Pv.getR (v := .ref 72) rfl rfl (GW.at (a := 69) (k := 7) (b := 72) g3 (by decide)) ?_
                refine Pv.lit rfl ?_
                refine Pv.iload rfl rfl ?_
                refine Pv.bin (z := Int32.ofNat (80 + j)) rfl (i_add 80 j) ?_
                refine Pv.ald (z := G3.1 72 (80 + j)) rfl (by rw [i_toNat (by omega)]) ?_
                refine Pv.aload rfl rfl ?_
                refine Pv.getI (z := Int32.ofNat w2) rfl rfl (hw28) ?_
                refine Pv.icmp rfl (fun c14 => ?_) (fun c14 => ?_)
                · skip
                  replace c14 := of_decide_eq_true c14
                  refine Pv.lit rfl ?_
                  refine Pv.istore (lo' := [some (.ref 69), some (.int (Int32.ofNat q)), some (.int (Int32.ofNat w1)), some (.int 0), some (.int (Int32.ofNat j))]) rfl rfl ?_
                  refine Pv.iinc (y := Int32.ofNat (j + 1)) (lo' := [some (.ref 69), some (.int (Int32.ofNat q)), some (.int (Int32.ofNat w1)), some (.int 0), some (.int (Int32.ofNat (j + 1)))]) rfl rfl (i_add j 1) rfl ?_
                  refine Pv.goto rfl ?_
                  exact ih8 (0, j + 1) (⟨by omega, mt_x (by rw [decide_eq_true ((sn3.eqv (i := 60 + j) (w := w1) (by omega) (by omega)).mp c13), decide_eq_true ((sn3.eqv (i := 80 + j) (w := w2) (by omega) (by omega)).mp c14)]; rfl)⟩)
                · skip
                  replace c14 := of_decide_eq_false c14
                  refine Pv.lit rfl ?_
                  refine Pv.goto rfl ?_
                  refine Pv.istore (lo' := [some (.ref 69), some (.int (Int32.ofNat q)), some (.int (Int32.ofNat w1)), some (.int 1), some (.int (Int32.ofNat j))]) rfl rfl ?_
                  refine Pv.iinc (y := Int32.ofNat (j + 1)) (lo' := [some (.ref 69), some (.int (Int32.ofNat q)), some (.int (Int32.ofNat w1)), some (.int 1), some (.int (Int32.ofNat (j + 1)))]) rfl rfl (i_add j 1) rfl ?_
                  refine Pv.goto rfl ?_
                  exact ih8 (1, j + 1) (⟨by omega, mt_1 (fun z => c12 (hb.trans z)) (by rw [decide_eq_true ((sn3.eqv (i := 60 + j) (w := w1) (by omega) (by omega)).mp c13), decide_eq_false (fun z => c14 ((sn3.eqv (i := 80 + j) (w := w2) (by omega) (by omega)).mpr z))]; rfl)⟩)
        · skip
          replace c4 := mt (i_eq (a := w2) (b := w1) (by omega) (by omega)).mpr (of_decide_eq_false c4)
          refine Pv.lit rfl ?_
          refine Pv.goto rfl ?_
          refine Pv.istore (lo' := [some (.ref 69), some (.int (Int32.ofNat q)), some (.int (Int32.ofNat w1)), some (.int 1), none]) rfl rfl ?_
          refine Pv.lit rfl ?_
          refine Pv.istore (lo' := [some (.ref 69), some (.int (Int32.ofNat q)), some (.int (Int32.ofNat w1)), some (.int 1), some (.int 0)]) rfl rfl ?_
          refine Pv.lp (ι := Int32 × Nat) (lof := fun ⟨b, j⟩ => [some (.ref 69), some (.int (Int32.ofNat q)), some (.int (Int32.ofNat w1)), some (.int b), some (.int (Int32.ofNat j))]) (Ff := fun ⟨b, j⟩ => G3) (P := fun ⟨b, j⟩ => j ≤ q ∧ b = b2i (!(decide ((w1 : Int) = (w2 : Int)) || mtold s.h (w1 : Int) (w2 : Int) j))) ?_ (1, 0) (⟨Nat.zero_le _, by rw [decide_eq_false (show ¬ (w1 : Int) = (w2 : Int) by omega)]; rfl⟩)
          rintro N15 hN16 ⟨b, j⟩ hi17 ih18
          refine (show Pv _ _ 79 [some (.ref 69), some (.int (Int32.ofNat q)), some (.int (Int32.ofNat w1)), some (.int b), some (.int (Int32.ofNat j))] [] G3 Q from ?_)
          obtain ⟨hj, hb⟩ := hi17
          refine Pv.iloadS rfl rfl ?_
          refine Pv.iload rfl rfl ?_
          refine Pv.icmp rfl (fun c19 => ?_) (fun c19 => ?_)
          · skip
            replace c19 := (i_le (a := q) (b := j) (by omega) (by omega)).mp (of_decide_eq_true c19)
            refine Pv.iload rfl rfl ?_
            refine Pv.if0 rfl (fun c20 => ?_) (fun c20 => ?_)
            · skip
              replace c20 : decide (b = 0) = false := by simpa using c20
              replace c20 := of_decide_eq_false c20
              have jq : j = q := by omega
              rw [jq] at hb
              have hn2 := mt_n (fun z => c20 (hb.trans z))
              have hM : ¬ ((w1 : Int) = (w2 : Int) ∨ mtold s.h (w1 : Int) (w2 : Int) q = true) := fun z => z.elim (of_decide_eq_false hn2.1) (fun y => by rw [hn2.2] at y; cases y)
              refine Pv.aload rfl rfl ?_
              refine Pv.getR (v := .ref 72) rfl rfl (GW.at (a := 69) (k := 7) (b := 72) g3 (by decide)) ?_
              refine Pv.lit rfl ?_
              refine Pv.iload rfl rfl ?_
              refine Pv.bin (z := Int32.ofNat (60 + q)) rfl (i_add 60 q) ?_
              refine Pv.iload rfl rfl ?_
              refine Pv.astk (k := 60 + q) (z := Int32.ofNat w1) rfl (i_toNat (by omega)) (rfl) ?_
              refine Pv.aload rfl rfl ?_
              refine Pv.getR (v := .ref 72) rfl rfl (GW.at (a := 69) (k := 7) (b := 72) g3 (by decide)) ?_
              refine Pv.lit rfl ?_
              refine Pv.iload rfl rfl ?_
              refine Pv.bin (z := Int32.ofNat (80 + q)) rfl (i_add 80 q) ?_
              refine Pv.aload rfl rfl ?_
              refine Pv.getI (z := Int32.ofNat w2) rfl rfl ((fp_ne (Or.inl (by decide))).trans (hw28)) ?_
              refine Pv.astk (k := 80 + q) (z := Int32.ofNat w2) rfl (i_toNat (by omega)) (rfl) ?_
              refine Pv.aload rfl rfl ?_
              refine Pv.callV (as := [.ref 69]) (rest := []) rfl rfl rfl (r_next (GW.fx g3 (((FX.rf (P := fun q => q = 72)).fp rfl).fp rfl)) ((tn3.oth (a := 72) (Or.inl rfl)).oth (a := 72) (Or.inl rfl))) ?_
              rintro _ G4 ⟨rfl, xn4, tn4⟩
              have g4 := RNX.G xn4 (GW.fx g3 (((FX.rf (P := fun q => q = 72)).fp rfl).fp rfl))
              have sn4 := ((sn3.put (k := 60 + q) (a := (w1 : Int)) (by omega) (i_toInt (by omega))).put (k := 80 + q) (a := (w2 : Int)) (by omega) (i_toInt (by omega))).lx (RLX.of xn4)
              have y4 : RSX F G4 := y3.p72.p72.lx (RLX.of xn4)
              have z4 : G4.1 69 15 = F.1 69 15 := (xn4.2.1 15 (by decide) (by decide) (by decide) (by decide) (by decide)).trans ((fp_ne (Or.inl (by decide))).trans ((fp_ne (Or.inl (by decide))).trans z3))
              refine (show Pv _ _ 169 [some (.ref 69), some (.int (Int32.ofNat q)), some (.int (Int32.ofNat w1)), some (.int b), some (.int (Int32.ofNat j))] [] G4 Q from ?_)
              refine Pv.aload rfl rfl ?_
              refine Pv.lit rfl ?_
              refine Pv.iload rfl rfl ?_
              refine Pv.bin (z := Int32.ofNat (100 + q)) rfl (i_add 100 q) ?_
              refine Pv.lit rfl ?_
              refine Pv.lit rfl ?_
              refine Pv.callV (as := [.ref 69, .int (Int32.ofNat (100 + q)), .int 0, .int 60]) (rest := []) rfl rfl rfl (r_puts (k := 100 + q) g4 tn4 (by omega) 0 60) ?_
              rintro _ G5 ⟨rfl, G6, x6, py, pn⟩
              have g5 : GW G5 := puts_gw g4 x6 py pn
              refine (show Pv _ _ 180 [some (.ref 69), some (.int (Int32.ofNat q)), some (.int (Int32.ofNat w1)), some (.int b), some (.int (Int32.ofNat j))] [.int (b2i (decide (tnN (tok B n lim (i + 3)) (0 : Int32).toInt (60 : Int32).toInt = 0)))] G5 Q from ?_)
              refine Pv.if0 rfl (fun c21 => ?_) (fun c21 => ?_)
              · skip
                replace c21 : decide (b2i (decide (tnN (tok B n lim (i + 3)) (0 : Int32).toInt (60 : Int32).toInt = 0)) = 0) = false := by simpa using c21
                replace c21 := of_decide_eq_false c21
                replace c21 := b2n.mp c21
                have ep := of_decide_eq_true c21
                obtain ⟨t7, z7, hv7, rfl⟩ := py ep
                have sn7 := (sn4.lx x6).put (k := 100 + q) (by omega) hv7
                have hq7 : ups (ups (ups s.h (60 + q) (w1 : Int)) (80 + q) (w2 : Int)) (100 + q) (tok B n lim (i + 3)).v 3 = (q : Int) := (ups_ne (by omega)).trans ((ups_ne (by omega)).trans ((ups_ne (by omega)).trans hq))
                refine Pv.aload rfl rfl ?_
                refine Pv.getR (v := .ref 72) rfl rfl (GW.at (a := 69) (k := 7) (b := 72) g5 (by decide)) ?_
                refine Pv.lit rfl ?_
                refine Pv.dup2 rfl ?_
                refine Pv.ald (z := Int32.ofNat q) rfl (sn7.at (by decide) hq7) ?_
                refine Pv.lit rfl ?_
                refine Pv.bin (z := Int32.ofNat (q + 1)) rfl (i_add q 1) ?_
                refine Pv.astk (k := 3) (z := Int32.ofNat (q + 1)) rfl (rfl) (rfl) ?_
                refine Pv.lit rfl ?_
                exact Pv.zret rfl (by rw [hQ]; exact LRQ.ok (lnMiss_y (by omega) hm hq l1 l2 hM ep) ((y4.lx x6).p72).p72 ((t7.oth (Or.inl rfl)).oth (Or.inl rfl)) ((fp_ne (Or.inl (by decide))).trans ((fp_ne (Or.inl (by decide))).trans (z7.trans z4))) (sn7.miss hq7 (by omega)))
              · skip
                replace c21 : decide (b2i (decide (tnN (tok B n lim (i + 3)) (0 : Int32).toInt (60 : Int32).toInt = 0)) = 0) = true := by simpa using c21
                replace c21 := of_decide_eq_true c21
                replace c21 := b2z.mp c21
                refine Pv.lit rfl ?_
                have en := of_decide_eq_false c21
                obtain ⟨eg, q1, q2⟩ := pn en
                subst eg
                exact Pv.zret rfl (by rw [hQ]; exact LRQ.bad (lnMiss_n (by omega) hm hq l1 l2 hM en) (y4.lx x6) (congrArg Int32.toInt q1) q2)
            · skip
              replace c20 : decide (b = 0) = true := by simpa using c20
              replace c20 := of_decide_eq_true c20
              have jq : j = q := by omega
              rw [jq] at hb
              have hM : (w1 : Int) = (w2 : Int) ∨ mtold s.h (w1 : Int) (w2 : Int) q = true := (mt_y (hb ▸ c20)).elim (fun z => Or.inl (of_decide_eq_true z)) Or.inr
              refine Pv.aload rfl rfl ?_
              refine Pv.lit rfl ?_
              refine Pv.callVI (as := [.ref 69, .int 3]) (rest := []) (z := 0) rfl rfl rfl (r_bad (c := 3) g3) ?_
              exact Pv.zret rfl (by rw [hQ]; exact LRQ.rb (j := i + 2) (c := 3) (lnMiss_t (by omega) hm hq l1 l2 hM) y3 tn3)
          · skip
            replace c19 := mt (i_le (a := q) (b := j) (by omega) (by omega)).mpr (of_decide_eq_false c19)
            refine Pv.iload rfl rfl ?_
            refine Pv.if0 rfl (fun c22 => ?_) (fun c22 => ?_)
            · skip
              replace c22 := of_decide_eq_true c22
              refine Pv.lit rfl ?_
              refine Pv.istore (lo' := [some (.ref 69), some (.int (Int32.ofNat q)), some (.int (Int32.ofNat w1)), some (.int 0), some (.int (Int32.ofNat j))]) rfl rfl ?_
              refine Pv.iinc (y := Int32.ofNat (j + 1)) (lo' := [some (.ref 69), some (.int (Int32.ofNat q)), some (.int (Int32.ofNat w1)), some (.int 0), some (.int (Int32.ofNat (j + 1)))]) rfl rfl (i_add j 1) rfl ?_
              refine Pv.goto rfl ?_
              exact ih18 (0, j + 1) (⟨by omega, mt_0 (hb ▸ c22)⟩)
            · skip
              replace c22 := of_decide_eq_false c22
              refine Pv.aload rfl rfl ?_
              refine Pv.getR (v := .ref 72) rfl rfl (GW.at (a := 69) (k := 7) (b := 72) g3 (by decide)) ?_
              refine Pv.lit rfl ?_
              refine Pv.iload rfl rfl ?_
              refine Pv.bin (z := Int32.ofNat (60 + j)) rfl (i_add 60 j) ?_
              refine Pv.ald (z := G3.1 72 (60 + j)) rfl (by rw [i_toNat (by omega)]) ?_
              refine Pv.iload rfl rfl ?_
              refine Pv.icmp rfl (fun c23 => ?_) (fun c23 => ?_)
              · skip
                replace c23 : decide (G3.1 72 (60 + j) = Int32.ofNat w1) = false := by simpa using c23
                replace c23 := of_decide_eq_false c23
                refine Pv.lit rfl ?_
                refine Pv.goto rfl ?_
                refine Pv.istore (lo' := [some (.ref 69), some (.int (Int32.ofNat q)), some (.int (Int32.ofNat w1)), some (.int 1), some (.int (Int32.ofNat j))]) rfl rfl ?_
                refine Pv.iinc (y := Int32.ofNat (j + 1)) (lo' := [some (.ref 69), some (.int (Int32.ofNat q)), some (.int (Int32.ofNat w1)), some (.int 1), some (.int (Int32.ofNat (j + 1)))]) rfl rfl (i_add j 1) rfl ?_
                refine Pv.goto rfl ?_
                exact ih18 (1, j + 1) (⟨by omega, mt_1 (fun z => c22 (hb.trans z)) (by rw [decide_eq_false (fun z => c23 ((sn3.eqv (i := 60 + j) (w := w1) (by omega) (by omega)).mpr z))]; rfl)⟩)
              · skip
                replace c23 : decide (G3.1 72 (60 + j) = Int32.ofNat w1) = true := by simpa using c23
                replace c23 := of_decide_eq_true c23
                refine Pv.aload rfl rfl ?_
                refine Pv.getR (v := .ref 72) rfl rfl (GW.at (a := 69) (k := 7) (b := 72) g3 (by decide)) ?_
                refine Pv.lit rfl ?_
                refine Pv.iload rfl rfl ?_
                refine Pv.bin (z := Int32.ofNat (80 + j)) rfl (i_add 80 j) ?_
                refine Pv.ald (z := G3.1 72 (80 + j)) rfl (by rw [i_toNat (by omega)]) ?_
                refine Pv.aload rfl rfl ?_
                refine Pv.getI (z := Int32.ofNat w2) rfl rfl (hw28) ?_
                refine Pv.icmp rfl (fun c24 => ?_) (fun c24 => ?_)
                · skip
                  replace c24 := of_decide_eq_true c24
                  refine Pv.lit rfl ?_
                  refine Pv.istore (lo' := [some (.ref 69), some (.int (Int32.ofNat q)), some (.int (Int32.ofNat w1)), some (.int 0), some (.int (Int32.ofNat j))]) rfl rfl ?_
                  refine Pv.iinc (y := Int32.ofNat (j + 1)) (lo' := [some (.ref 69), some (.int (Int32.ofNat q)), some (.int (Int32.ofNat w1)), some (.int 0), some (.int (Int32.ofNat (j + 1)))]) rfl rfl (i_add j 1) rfl ?_
                  refine Pv.goto rfl ?_
                  exact ih18 (0, j + 1) (⟨by omega, mt_x (by rw [decide_eq_true ((sn3.eqv (i := 60 + j) (w := w1) (by omega) (by omega)).mp c23), decide_eq_true ((sn3.eqv (i := 80 + j) (w := w2) (by omega) (by omega)).mp c24)]; rfl)⟩)
                · skip
                  replace c24 := of_decide_eq_false c24
                  refine Pv.lit rfl ?_
                  refine Pv.goto rfl ?_
                  refine Pv.istore (lo' := [some (.ref 69), some (.int (Int32.ofNat q)), some (.int (Int32.ofNat w1)), some (.int 1), some (.int (Int32.ofNat j))]) rfl rfl ?_
                  refine Pv.iinc (y := Int32.ofNat (j + 1)) (lo' := [some (.ref 69), some (.int (Int32.ofNat q)), some (.int (Int32.ofNat w1)), some (.int 1), some (.int (Int32.ofNat (j + 1)))]) rfl rfl (i_add j 1) rfl ?_
                  refine Pv.goto rfl ?_
                  exact ih18 (1, j + 1) (⟨by omega, mt_1 (fun z => c22 (hb.trans z)) (by rw [decide_eq_true ((sn3.eqv (i := 60 + j) (w := w1) (by omega) (by omega)).mp c23), decide_eq_false (fun z => c24 ((sn3.eqv (i := 80 + j) (w := w2) (by omega) (by omega)).mpr z))]; rfl)⟩)
      · skip
        replace c3 : decide (b2i (decide (lkc (sn s) 20 m (tok B n lim (i + 2)) = 0)) = 0) = true := by simpa using c3
        replace c3 := of_decide_eq_true c3
        replace c3 := b2z.mp c3
        refine Pv.lit rfl ?_
        have en := of_decide_eq_false c3
        exact Pv.zret rfl (by rw [hQ]; exact LRQ.bad (by unfold lnMiss; rw [if_neg (by omega), hm]; exact (l1 _).trans (lold_n (fun _ => sn_m) (by omega) en)) (((RSX.of (RLX.of xn)).lx h2.1).lx h3.1) (congrArg Int32.toInt (h3.2.2 en).1) (h3.2.2 en).2)
    · skip
      replace c2 : decide (b2i (decide (lkc (sn s) 20 m (tok B n lim (i + 1)) = 0)) = 0) = true := by simpa using c2
      replace c2 := of_decide_eq_true c2
      replace c2 := b2z.mp c2
      refine Pv.lit rfl ?_
      have en := of_decide_eq_false c2
      exact Pv.zret rfl (by rw [hQ]; exact LRQ.bad (by unfold lnMiss; rw [if_neg (by omega), hm]; exact lold_n (fun _ => sn_m) (by omega) en) ((RSX.of (RLX.of xn)).lx h2.1) (congrArg Int32.toInt (h2.2.2 en).1) (h2.2.2 en).2)
  · skip
    replace c1 : decide (Int32.ofNat q = 20) = true := by simpa using c1
    replace c1 := (i_eq (a := q) (b := 20) (by omega) (by omega)).mp (of_decide_eq_true c1)
    refine Pv.aload rfl rfl ?_
    refine Pv.lit rfl ?_
    refine Pv.callVI (as := [.ref 69, .int 4]) (rest := []) (z := 0) rfl rfl rfl (r_bad (c := 4) hG) ?_
    exact Pv.zret rfl (by rw [hQ]; exact LRQ.rb (j := i) (c := 4) (by unfold lnMiss; rw [if_pos (by omega)]; rfl) RSX.rf hT)
